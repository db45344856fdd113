def kr_Law : String := "ModuleLoaderLaw"
abbrev kb_Law_poke : ByteArray := method_3_code
def ky_Law_poke : MethodName := ⟨kr_Law, "poke", "(LModuleLoader;II)I"⟩
abbrev kb_Law_symbol : ByteArray := method_4_code
def ky_Law_symbol : MethodName := ⟨kr_Law, "symbol", "(LModuleLoader;III)I"⟩
abbrev kb_Law_load : ByteArray := method_5_code
def ky_Law_load : MethodName := ⟨kr_Law, "load", "(LModuleLoader;II[J)I"⟩
abbrev kb_Law_unload : ByteArray := method_6_code
def ky_Law_unload : MethodName := ⟨kr_Law, "unload", "(LModuleLoader;II)I"⟩
abbrev kb_Law_call : ByteArray := method_7_code
def ky_Law_call : MethodName := ⟨kr_Law, "call", "(LModuleLoader;IIII[J)I"⟩
abbrev kb_Law_peek : ByteArray := method_8_code
def ky_Law_peek : MethodName := ⟨kr_Law, "peek", "(LModuleLoader;I[J)I"⟩
theorem xl_tab {t : List ExceptionTableEntry} {hh : List (Nat × Nat × Nat × Nat)} (h : t.map (fun h => (h.startPc, h.endPc, h.handlerPc, h.catchType)) = hh) : t = hh.map (fun q => (⟨q.1, q.2.1, q.2.2.1, q.2.2.2⟩ : ExceptionTableEntry)) := by
  rw [← h, List.map_map]
  exact (List.map_id' t).symm.trans (List.map_congr_left (fun x _ => rfl))
theorem xl_in0 : vp_in (0 : Int32) 1 := by unfold vp_in; decide
set_option maxRecDepth 100000 in
theorem kw_340 : Cond.code ky_Loader_poke kb_Loader_poke 3 none ∈ xx_tb := xx_in (List.mem_append_right _ (List.mem_of_getElem? (i := 340) (by rfl))) (by decide +kernel)
theorem kw_337 : Cond.methodLink "ModuleLoaderLaw" 7 ky_Loader_poke ∈ xx_tb := xx_in (List.mem_append_right _ (List.mem_of_getElem? (i := 337) (by decide +kernel))) (by decide +kernel)
theorem kw_338 : Cond.instanceMethod ky_Loader_poke ∈ xx_tb := xx_in (List.mem_append_right _ (List.mem_of_getElem? (i := 338) (by decide +kernel))) (by decide +kernel)
theorem kw_339 : Cond.selects "ModuleLoader" ky_Loader_poke ky_Loader_poke ∈ xx_tb := xx_in (List.mem_append_right _ (List.mem_of_getElem? (i := 339) (by decide +kernel))) (by decide +kernel)
theorem kw_335 : Cond.classLink "ModuleLoaderLaw" 13 "java/lang/IndexOutOfBoundsException" ∈ xx_tb := xx_in (List.mem_append_right _ (List.mem_of_getElem? (i := 335) (by decide +kernel))) (by decide +kernel)
theorem kw_336 : Cond.classLink "ModuleLoaderLaw" 15 "java/lang/IllegalStateException" ∈ xx_tb := xx_in (List.mem_append_right _ (List.mem_of_getElem? (i := 336) (by decide +kernel))) (by decide +kernel)
theorem ld_poke_0 : decode kb_Law_poke 0 = .ok (.aload_n 0, 1) := by decide +kernel
theorem ld_poke_1 : decode kb_Law_poke 1 = .ok (.iload_n 1, 1) := by decide +kernel
theorem ld_poke_2 : decode kb_Law_poke 2 = .ok (.iload_n 2, 1) := by decide +kernel
theorem ld_poke_3 : decode kb_Law_poke 3 = .ok (.invokevirtual 7, 3) := by decide +kernel
theorem ld_poke_6 : decode kb_Law_poke 6 = .ok (.goto (9), 3) := by decide +kernel
theorem ld_poke_9 : decode kb_Law_poke 9 = .ok (.astore_n 3, 1) := by decide +kernel
theorem ld_poke_10 : decode kb_Law_poke 10 = .ok (.iconst 1, 1) := by decide +kernel
theorem ld_poke_11 : decode kb_Law_poke 11 = .ok (.ireturn, 1) := by decide +kernel
theorem ld_poke_12 : decode kb_Law_poke 12 = .ok (.astore_n 3, 1) := by decide +kernel
theorem ld_poke_13 : decode kb_Law_poke 13 = .ok (.iconst 2, 1) := by decide +kernel
theorem ld_poke_14 : decode kb_Law_poke 14 = .ok (.ireturn, 1) := by decide +kernel
theorem ld_poke_15 : decode kb_Law_poke 15 = .ok (.iconst 0, 1) := by decide +kernel
theorem ld_poke_16 : decode kb_Law_poke 16 = .ok (.ireturn, 1) := by decide +kernel
set_option maxHeartbeats 4000000 in
set_option maxRecDepth 100000 in
theorem lc_poke (l : Launch) (hl0 : l.stackTraces = false) (g : xx_G) (aq : Nat → Nat) (o : Nat) (v : ll_S) (x1 x2 : Int32) (Hk : Option Value → ll_S → Prop) (hF : zp_Loader_poke (fun rv u1 => rv = none ∧ Hk (some (.int 0)) (u1, v.2)) (fun E u1 => (E = "java/lang/IndexOutOfBoundsException" ∧ Hk (some (.int 1)) (u1, v.2)) ∨ (E = "java/lang/IllegalStateException" ∧ Hk (some (.int 2)) (u1, v.2))) v.1 x1 x2) : xl_M l g.1 (ll_T g) (ll_W g aq o) ky_Law_poke kb_Law_poke 4 (some .int) [(0, 6, 9, 13), (0, 6, 12, 15)] (xx_rmc 7 112 1 6) [.ref (g.2.1 0), .int x1, .int x2] v Hk := by
  refine xl_body (by decide) (Nat.le_of_ble_eq_true rfl) ?_
  intro p e s m args below meth c A ls C hZ hAst htab hK hl hA hP hD hS
  have hx := C.1
  have hb := C.2.1
  have hown := C.2.2.2.1
  have hts := C.2.2.2.2.1
  have hl : lv_has ls 4 [(0, .ref (g.2.1 0)), (1, .int x1), (2, .int x2)] := hl
  have htab2 : c.exceptionTable.toList = [⟨0, 6, 9, 13⟩, ⟨0, 6, 12, 15⟩] := xl_tab htab
  refine lv_aload_n hx hb ld_poke_0 rfl (lv_at hl 0 rfl) ?_
  refine lv_iload_n hx hb ld_poke_1 rfl (lv_at hl 1 rfl) ?_
  refine lv_iload_n hx hb ld_poke_2 rfl (lv_at hl 2 rfl) ?_
  refine xw_callV (n := 2) (As := [.int x1, .int x2]) (rest := []) C hZ hAst (ll_wz (zc_Loader_poke l hl0 g v.1 x1 x2 _ _ hF)) ⟨kw_340, kw_337, kw_338, kw_339, kw_1⟩ ⟨by decide +kernel, by decide +kernel, by decide +kernel⟩ rfl ⟨Nat.le_of_ble_eq_true rfl, Nat.le_of_ble_eq_true rfl⟩ 16 rfl rfl hl.1 rfl (Nat.le_of_ble_eq_true rfl) hA hK hP hD hS ⟨by decide, by decide⟩ ld_poke_3 (fun rv w H locs hPo hP hD hS => ?_) (fun q E ce w H locs hPx hP hD hS hce hcv hcl => ?_)
  · obtain ⟨hw2, rfl, hF⟩ := hPo
    rw [← hw2] at hF
    refine lv_goto (tgt := 15) hx hb ld_poke_6 (by decide) ?_
    refine lv_iconst (v := (0 : Int32)) hx hb ld_poke_15 (by decide) ?_
    exact xl_iret C (by decide) (by decide) hF hK hP hD hS ld_poke_16
  · obtain ⟨hw2, hPx⟩ := hPx
    rcases hPx with ⟨rfl, hF⟩ | ⟨rfl, hF⟩
    · rw [← hw2] at hF
      refine xh_catch1 (nm := "java/lang/IndexOutOfBoundsException") hown htab2 (by decide) (by decide) (hts _ kw_335) (xw_cast (hts _ kw_345)) hce hcv hcl ?_
      refine lv_astore_n hx hb ld_poke_9 rfl hl (by decide) rfl (fun ls hl => ?_)
      refine lv_iconst (v := (1 : Int32)) hx hb ld_poke_10 (by decide) ?_
      exact xl_iret C (by decide) (by decide) hF hK hP hD hS ld_poke_11
    · rw [← hw2] at hF
      refine xh_catch2 (nm := "java/lang/IllegalStateException") (nm1 := "java/lang/IndexOutOfBoundsException") hown htab2 (by decide) (by decide) (hts _ kw_335) hZ.1.2.1 (by decide) (by decide) (hts _ kw_336) (xw_cast (hts _ kw_408)) hce hcv hcl ?_
      refine lv_astore_n hx hb ld_poke_12 rfl hl (by decide) rfl (fun ls hl => ?_)
      refine lv_iconst (v := (2 : Int32)) hx hb ld_poke_13 (by decide) ?_
      exact xl_iret C (by decide) (by decide) hF hK hP hD hS ld_poke_14
set_option maxRecDepth 100000 in
theorem kw_433 : Cond.code ky_Loader_symbol kb_Loader_symbol 4 none ∈ xx_tb := xx_in (List.mem_append_right _ (List.mem_of_getElem? (i := 433) (by rfl))) (by decide +kernel)
theorem kw_430 : Cond.methodLink "ModuleLoaderLaw" 17 ky_Loader_symbol ∈ xx_tb := xx_in (List.mem_append_right _ (List.mem_of_getElem? (i := 430) (by decide +kernel))) (by decide +kernel)
theorem kw_431 : Cond.instanceMethod ky_Loader_symbol ∈ xx_tb := xx_in (List.mem_append_right _ (List.mem_of_getElem? (i := 431) (by decide +kernel))) (by decide +kernel)
theorem kw_432 : Cond.selects "ModuleLoader" ky_Loader_symbol ky_Loader_symbol ∈ xx_tb := xx_in (List.mem_append_right _ (List.mem_of_getElem? (i := 432) (by decide +kernel))) (by decide +kernel)
theorem kw_429 : Cond.classLink "ModuleLoaderLaw" 21 "java/lang/IllegalArgumentException" ∈ xx_tb := xx_in (List.mem_append_right _ (List.mem_of_getElem? (i := 429) (by decide +kernel))) (by decide +kernel)
theorem ld_symbol_0 : decode kb_Law_symbol 0 = .ok (.aload_n 0, 1) := by decide +kernel
theorem ld_symbol_1 : decode kb_Law_symbol 1 = .ok (.iload_n 1, 1) := by decide +kernel
theorem ld_symbol_2 : decode kb_Law_symbol 2 = .ok (.iload_n 2, 1) := by decide +kernel
theorem ld_symbol_3 : decode kb_Law_symbol 3 = .ok (.iload_n 3, 1) := by decide +kernel
theorem ld_symbol_4 : decode kb_Law_symbol 4 = .ok (.invokevirtual 17, 3) := by decide +kernel
theorem ld_symbol_7 : decode kb_Law_symbol 7 = .ok (.goto (11), 3) := by decide +kernel
theorem ld_symbol_10 : decode kb_Law_symbol 10 = .ok (.astore 4, 2) := by decide +kernel
theorem ld_symbol_12 : decode kb_Law_symbol 12 = .ok (.iconst 1, 1) := by decide +kernel
theorem ld_symbol_13 : decode kb_Law_symbol 13 = .ok (.ireturn, 1) := by decide +kernel
theorem ld_symbol_14 : decode kb_Law_symbol 14 = .ok (.astore 4, 2) := by decide +kernel
theorem ld_symbol_16 : decode kb_Law_symbol 16 = .ok (.iconst 2, 1) := by decide +kernel
theorem ld_symbol_17 : decode kb_Law_symbol 17 = .ok (.ireturn, 1) := by decide +kernel
theorem ld_symbol_18 : decode kb_Law_symbol 18 = .ok (.iconst 0, 1) := by decide +kernel
theorem ld_symbol_19 : decode kb_Law_symbol 19 = .ok (.ireturn, 1) := by decide +kernel
set_option maxHeartbeats 4000000 in
set_option maxRecDepth 100000 in
theorem lc_symbol (l : Launch) (hl0 : l.stackTraces = false) (g : xx_G) (aq : Nat → Nat) (o : Nat) (v : ll_S) (x1 x2 x3 : Int32) (Hk : Option Value → ll_S → Prop) (hF : zp_Loader_symbol (fun rv u1 => rv = none ∧ Hk (some (.int 0)) (u1, v.2)) (fun E u1 => (E = "java/lang/IllegalArgumentException" ∧ Hk (some (.int 1)) (u1, v.2)) ∨ (E = "java/lang/IllegalStateException" ∧ Hk (some (.int 2)) (u1, v.2))) v.1 x1 x2 x3) : xl_M l g.1 (ll_T g) (ll_W g aq o) ky_Law_symbol kb_Law_symbol 5 (some .int) [(0, 7, 10, 21), (0, 7, 14, 15)] (xx_rmc 7 113 1 6) [.ref (g.2.1 0), .int x1, .int x2, .int x3] v Hk := by
  refine xl_body (by decide) (Nat.le_of_ble_eq_true rfl) ?_
  intro p e s m args below meth c A ls C hZ hAst htab hK hl hA hP hD hS
  have hx := C.1
  have hb := C.2.1
  have hown := C.2.2.2.1
  have hts := C.2.2.2.2.1
  have hl : lv_has ls 5 [(0, .ref (g.2.1 0)), (1, .int x1), (2, .int x2), (3, .int x3)] := hl
  have htab2 : c.exceptionTable.toList = [⟨0, 7, 10, 21⟩, ⟨0, 7, 14, 15⟩] := xl_tab htab
  refine lv_aload_n hx hb ld_symbol_0 rfl (lv_at hl 0 rfl) ?_
  refine lv_iload_n hx hb ld_symbol_1 rfl (lv_at hl 1 rfl) ?_
  refine lv_iload_n hx hb ld_symbol_2 rfl (lv_at hl 2 rfl) ?_
  refine lv_iload_n hx hb ld_symbol_3 rfl (lv_at hl 3 rfl) ?_
  refine xw_callV (n := 3) (As := [.int x1, .int x2, .int x3]) (rest := []) C hZ hAst (ll_wz (zc_Loader_symbol l hl0 g v.1 x1 x2 x3 _ _ hF)) ⟨kw_433, kw_430, kw_431, kw_432, kw_1⟩ ⟨by decide +kernel, by decide +kernel, by decide +kernel⟩ rfl ⟨Nat.le_of_ble_eq_true rfl, Nat.le_of_ble_eq_true rfl⟩ 16 rfl rfl hl.1 rfl (Nat.le_of_ble_eq_true rfl) hA hK hP hD hS ⟨by decide, by decide⟩ ld_symbol_4 (fun rv w H locs hPo hP hD hS => ?_) (fun q E ce w H locs hPx hP hD hS hce hcv hcl => ?_)
  · obtain ⟨hw2, rfl, hF⟩ := hPo
    rw [← hw2] at hF
    refine lv_goto (tgt := 18) hx hb ld_symbol_7 (by decide) ?_
    refine lv_iconst (v := (0 : Int32)) hx hb ld_symbol_18 (by decide) ?_
    exact xl_iret C (by decide) (by decide) hF hK hP hD hS ld_symbol_19
  · obtain ⟨hw2, hPx⟩ := hPx
    rcases hPx with ⟨rfl, hF⟩ | ⟨rfl, hF⟩
    · rw [← hw2] at hF
      refine xh_catch1 (nm := "java/lang/IllegalArgumentException") hown htab2 (by decide) (by decide) (hts _ kw_429) (xw_cast (hts _ kw_438)) hce hcv hcl ?_
      refine lv_astore hx hb ld_symbol_10 hl (by decide) rfl (fun ls hl => ?_)
      refine lv_iconst (v := (1 : Int32)) hx hb ld_symbol_12 (by decide) ?_
      exact xl_iret C (by decide) (by decide) hF hK hP hD hS ld_symbol_13
    · rw [← hw2] at hF
      refine xh_catch2 (nm := "java/lang/IllegalStateException") (nm1 := "java/lang/IllegalArgumentException") hown htab2 (by decide) (by decide) (hts _ kw_429) hZ.1.2.2 (by decide) (by decide) (hts _ kw_336) (xw_cast (hts _ kw_408)) hce hcv hcl ?_
      refine lv_astore hx hb ld_symbol_14 hl (by decide) rfl (fun ls hl => ?_)
      refine lv_iconst (v := (2 : Int32)) hx hb ld_symbol_16 (by decide) ?_
      exact xl_iret C (by decide) (by decide) hF hK hP hD hS ld_symbol_17
set_option maxRecDepth 100000 in
theorem kw_852 : Cond.code ky_Loader_unload kb_Loader_unload 4 none ∈ xx_tb := xx_in (List.mem_append_right _ (List.mem_of_getElem? (i := 852) (by rfl))) (by decide +kernel)
theorem kw_849 : Cond.methodLink "ModuleLoaderLaw" 27 ky_Loader_unload ∈ xx_tb := xx_in (List.mem_append_right _ (List.mem_of_getElem? (i := 849) (by decide +kernel))) (by decide +kernel)
theorem kw_850 : Cond.instanceMethod ky_Loader_unload ∈ xx_tb := xx_in (List.mem_append_right _ (List.mem_of_getElem? (i := 850) (by decide +kernel))) (by decide +kernel)
theorem kw_851 : Cond.selects "ModuleLoader" ky_Loader_unload ky_Loader_unload ∈ xx_tb := xx_in (List.mem_append_right _ (List.mem_of_getElem? (i := 851) (by decide +kernel))) (by decide +kernel)
theorem ld_unload_0 : decode kb_Law_unload 0 = .ok (.aload_n 0, 1) := by decide +kernel
theorem ld_unload_1 : decode kb_Law_unload 1 = .ok (.iload_n 1, 1) := by decide +kernel
theorem ld_unload_2 : decode kb_Law_unload 2 = .ok (.iload_n 2, 1) := by decide +kernel
theorem ld_unload_3 : decode kb_Law_unload 3 = .ok (.invokevirtual 27, 3) := by decide +kernel
theorem ld_unload_6 : decode kb_Law_unload 6 = .ok (.goto (9), 3) := by decide +kernel
theorem ld_unload_9 : decode kb_Law_unload 9 = .ok (.astore_n 3, 1) := by decide +kernel
theorem ld_unload_10 : decode kb_Law_unload 10 = .ok (.iconst 1, 1) := by decide +kernel
theorem ld_unload_11 : decode kb_Law_unload 11 = .ok (.ireturn, 1) := by decide +kernel
theorem ld_unload_12 : decode kb_Law_unload 12 = .ok (.astore_n 3, 1) := by decide +kernel
theorem ld_unload_13 : decode kb_Law_unload 13 = .ok (.iconst 2, 1) := by decide +kernel
theorem ld_unload_14 : decode kb_Law_unload 14 = .ok (.ireturn, 1) := by decide +kernel
theorem ld_unload_15 : decode kb_Law_unload 15 = .ok (.iconst 0, 1) := by decide +kernel
theorem ld_unload_16 : decode kb_Law_unload 16 = .ok (.ireturn, 1) := by decide +kernel
set_option maxHeartbeats 4000000 in
set_option maxRecDepth 100000 in
theorem lc_unload (l : Launch) (hl0 : l.stackTraces = false) (g : xx_G) (aq : Nat → Nat) (o : Nat) (v : ll_S) (x1 x2 : Int32) (Hk : Option Value → ll_S → Prop) (hF : zp_Loader_unload (fun rv u1 => rv = none ∧ Hk (some (.int 0)) (u1, v.2)) (fun E u1 => (E = "java/lang/IllegalArgumentException" ∧ Hk (some (.int 1)) (u1, v.2)) ∨ (E = "java/lang/IllegalStateException" ∧ Hk (some (.int 2)) (u1, v.2))) v.1 x1 x2) : xl_M l g.1 (ll_T g) (ll_W g aq o) ky_Law_unload kb_Law_unload 4 (some .int) [(0, 6, 9, 21), (0, 6, 12, 15)] (xx_rmc 7 163 1 6) [.ref (g.2.1 0), .int x1, .int x2] v Hk := by
  refine xl_body (by decide) (Nat.le_of_ble_eq_true rfl) ?_
  intro p e s m args below meth c A ls C hZ hAst htab hK hl hA hP hD hS
  have hx := C.1
  have hb := C.2.1
  have hown := C.2.2.2.1
  have hts := C.2.2.2.2.1
  have hl : lv_has ls 4 [(0, .ref (g.2.1 0)), (1, .int x1), (2, .int x2)] := hl
  have htab2 : c.exceptionTable.toList = [⟨0, 6, 9, 21⟩, ⟨0, 6, 12, 15⟩] := xl_tab htab
  refine lv_aload_n hx hb ld_unload_0 rfl (lv_at hl 0 rfl) ?_
  refine lv_iload_n hx hb ld_unload_1 rfl (lv_at hl 1 rfl) ?_
  refine lv_iload_n hx hb ld_unload_2 rfl (lv_at hl 2 rfl) ?_
  refine xw_callV (n := 2) (As := [.int x1, .int x2]) (rest := []) C hZ hAst (ll_wz (zc_Loader_unload l hl0 g v.1 x1 x2 _ _ hF)) ⟨kw_852, kw_849, kw_850, kw_851, kw_1⟩ ⟨by decide +kernel, by decide +kernel, by decide +kernel⟩ rfl ⟨Nat.le_of_ble_eq_true rfl, Nat.le_of_ble_eq_true rfl⟩ 16 rfl rfl hl.1 rfl (Nat.le_of_ble_eq_true rfl) hA hK hP hD hS ⟨by decide, by decide⟩ ld_unload_3 (fun rv w H locs hPo hP hD hS => ?_) (fun q E ce w H locs hPx hP hD hS hce hcv hcl => ?_)
  · obtain ⟨hw2, rfl, hF⟩ := hPo
    rw [← hw2] at hF
    refine lv_goto (tgt := 15) hx hb ld_unload_6 (by decide) ?_
    refine lv_iconst (v := (0 : Int32)) hx hb ld_unload_15 (by decide) ?_
    exact xl_iret C (by decide) (by decide) hF hK hP hD hS ld_unload_16
  · obtain ⟨hw2, hPx⟩ := hPx
    rcases hPx with ⟨rfl, hF⟩ | ⟨rfl, hF⟩
    · rw [← hw2] at hF
      refine xh_catch1 (nm := "java/lang/IllegalArgumentException") hown htab2 (by decide) (by decide) (hts _ kw_429) (xw_cast (hts _ kw_438)) hce hcv hcl ?_
      refine lv_astore_n hx hb ld_unload_9 rfl hl (by decide) rfl (fun ls hl => ?_)
      refine lv_iconst (v := (1 : Int32)) hx hb ld_unload_10 (by decide) ?_
      exact xl_iret C (by decide) (by decide) hF hK hP hD hS ld_unload_11
    · rw [← hw2] at hF
      refine xh_catch2 (nm := "java/lang/IllegalStateException") (nm1 := "java/lang/IllegalArgumentException") hown htab2 (by decide) (by decide) (hts _ kw_429) hZ.1.2.2 (by decide) (by decide) (hts _ kw_336) (xw_cast (hts _ kw_408)) hce hcv hcl ?_
      refine lv_astore_n hx hb ld_unload_12 rfl hl (by decide) rfl (fun ls hl => ?_)
      refine lv_iconst (v := (2 : Int32)) hx hb ld_unload_13 (by decide) ?_
      exact xl_iret C (by decide) (by decide) hF hK hP hD hS ld_unload_14
set_option maxRecDepth 100000 in
theorem kw_490 : Cond.code ky_Loader_load kb_Loader_load 4 (some .int) ∈ xx_tb := xx_in (List.mem_append_right _ (List.mem_of_getElem? (i := 490) (by rfl))) (by decide +kernel)
theorem kw_487 : Cond.methodLink "ModuleLoaderLaw" 23 ky_Loader_load ∈ xx_tb := xx_in (List.mem_append_right _ (List.mem_of_getElem? (i := 487) (by decide +kernel))) (by decide +kernel)
theorem kw_488 : Cond.instanceMethod ky_Loader_load ∈ xx_tb := xx_in (List.mem_append_right _ (List.mem_of_getElem? (i := 488) (by decide +kernel))) (by decide +kernel)
theorem kw_489 : Cond.selects "ModuleLoader" ky_Loader_load ky_Loader_load ∈ xx_tb := xx_in (List.mem_append_right _ (List.mem_of_getElem? (i := 489) (by decide +kernel))) (by decide +kernel)
theorem ld_load_0 : decode kb_Law_load 0 = .ok (.aload_n 3, 1) := by decide +kernel
theorem ld_load_1 : decode kb_Law_load 1 = .ok (.iconst 0, 1) := by decide +kernel
theorem ld_load_2 : decode kb_Law_load 2 = .ok (.aload_n 0, 1) := by decide +kernel
theorem ld_load_3 : decode kb_Law_load 3 = .ok (.iload_n 1, 1) := by decide +kernel
theorem ld_load_4 : decode kb_Law_load 4 = .ok (.iload_n 2, 1) := by decide +kernel
theorem ld_load_5 : decode kb_Law_load 5 = .ok (.invokevirtual 23, 3) := by decide +kernel
theorem ld_load_8 : decode kb_Law_load 8 = .ok (.i2l, 1) := by decide +kernel
theorem ld_load_9 : decode kb_Law_load 9 = .ok (.lastore, 1) := by decide +kernel
theorem ld_load_10 : decode kb_Law_load 10 = .ok (.goto (11), 3) := by decide +kernel
theorem ld_load_13 : decode kb_Law_load 13 = .ok (.astore 4, 2) := by decide +kernel
theorem ld_load_15 : decode kb_Law_load 15 = .ok (.iconst 1, 1) := by decide +kernel
theorem ld_load_16 : decode kb_Law_load 16 = .ok (.ireturn, 1) := by decide +kernel
theorem ld_load_17 : decode kb_Law_load 17 = .ok (.astore 4, 2) := by decide +kernel
theorem ld_load_19 : decode kb_Law_load 19 = .ok (.iconst 2, 1) := by decide +kernel
theorem ld_load_20 : decode kb_Law_load 20 = .ok (.ireturn, 1) := by decide +kernel
theorem ld_load_21 : decode kb_Law_load 21 = .ok (.iconst 0, 1) := by decide +kernel
theorem ld_load_22 : decode kb_Law_load 22 = .ok (.ireturn, 1) := by decide +kernel
set_option maxHeartbeats 4000000 in
set_option maxRecDepth 100000 in
theorem lc_load (l : Launch) (hl0 : l.stackTraces = false) (g : xx_G) (aq : Nat → Nat) (o : Nat) (v : ll_S) (x1 x2 : Int32) (Hk : Option Value → ll_S → Prop) (hF : zp_Loader_load (fun rv u1 => ∃ r : Int32, rv = some (.int r) ∧ Hk (some (.int 0)) (u1, v.2.1, vp_updL v.2.2 ((0 : Int32).toNatClampNeg) r.toInt64)) (fun E u1 => (E = "java/lang/IllegalArgumentException" ∧ Hk (some (.int 1)) (u1, v.2)) ∨ (E = "java/lang/IllegalStateException" ∧ Hk (some (.int 2)) (u1, v.2))) v.1 x1 x2) : xl_M l g.1 (ll_T g) (ll_W g aq o) ky_Law_load kb_Law_load 5 (some .int) [(0, 10, 13, 21), (0, 10, 17, 15)] (xx_rmc 7 163 11 56) [.ref (g.2.1 0), .int x1, .int x2, .ref o] v Hk := by
  refine xl_body (by decide) (Nat.le_of_ble_eq_true rfl) ?_
  intro p e s m args below meth c A ls C hZ hAst htab hK hl hA hP hD hS
  have hx := C.1
  have hb := C.2.1
  have hown := C.2.2.2.1
  have hts := C.2.2.2.2.1
  have hl : lv_has ls 5 [(0, .ref (g.2.1 0)), (1, .int x1), (2, .int x2), (3, .ref o)] := hl
  have htab2 : c.exceptionTable.toList = [⟨0, 10, 13, 21⟩, ⟨0, 10, 17, 15⟩] := xl_tab htab
  refine lv_aload_n hx hb ld_load_0 rfl (lv_at hl 3 rfl) ?_
  refine lv_iconst (v := (0 : Int32)) hx hb ld_load_1 (by decide) ?_
  refine lv_aload_n hx hb ld_load_2 rfl (lv_at hl 0 rfl) ?_
  refine lv_iload_n hx hb ld_load_3 rfl (lv_at hl 1 rfl) ?_
  refine lv_iload_n hx hb ld_load_4 rfl (lv_at hl 2 rfl) ?_
  refine xw_callV (n := 2) (As := [.int x1, .int x2]) (rest := [.int (0 : Int32), .ref o]) C hZ hAst (ll_wz (zc_Loader_load l hl0 g v.1 x1 x2 _ _ hF)) ⟨kw_490, kw_487, kw_488, kw_489, kw_1⟩ ⟨by decide +kernel, by decide +kernel, by decide +kernel⟩ rfl ⟨Nat.le_of_ble_eq_true rfl, Nat.le_of_ble_eq_true rfl⟩ 16 rfl rfl hl.1 rfl (Nat.le_of_ble_eq_true rfl) hA hK hP hD hS ⟨by decide, by decide⟩ ld_load_5 (fun rv w H locs hPo hP hD hS => ?_) (fun q E ce w H locs hPx hP hD hS hce hcv hcl => ?_)
  · obtain ⟨hw2, r, rfl, hF⟩ := hPo
    rw [← hw2] at hF
    refine lv_i2l hx hb ld_load_8 rfl ?_
    refine va_last hx hb hK hP hD hS 15 4 rfl rfl xl_in0 ld_load_9 (fun H locs hP hD hS => ?_)
    have hP : va_P g.1 xx_cls (ll_W g aq o (w.1, w.2.1, vp_updL w.2.2 ((0 : Int32).toNatClampNeg) r.toInt64)) H := hP
    have hD : va_D A (ll_W g aq o (w.1, w.2.1, vp_updL w.2.2 ((0 : Int32).toNatClampNeg) r.toInt64)) := hD
    refine lv_goto (tgt := 21) hx hb ld_load_10 (by decide) ?_
    refine lv_iconst (v := (0 : Int32)) hx hb ld_load_21 (by decide) ?_
    exact xl_iret C (by decide) (by decide) hF hK hP hD hS ld_load_22
  · obtain ⟨hw2, hPx⟩ := hPx
    rcases hPx with ⟨rfl, hF⟩ | ⟨rfl, hF⟩
    · rw [← hw2] at hF
      refine xh_catch1 (nm := "java/lang/IllegalArgumentException") hown htab2 (by decide) (by decide) (hts _ kw_429) (xw_cast (hts _ kw_438)) hce hcv hcl ?_
      refine lv_astore hx hb ld_load_13 hl (by decide) rfl (fun ls hl => ?_)
      refine lv_iconst (v := (1 : Int32)) hx hb ld_load_15 (by decide) ?_
      exact xl_iret C (by decide) (by decide) hF hK hP hD hS ld_load_16
    · rw [← hw2] at hF
      refine xh_catch2 (nm := "java/lang/IllegalStateException") (nm1 := "java/lang/IllegalArgumentException") hown htab2 (by decide) (by decide) (hts _ kw_429) hZ.1.2.2 (by decide) (by decide) (hts _ kw_336) (xw_cast (hts _ kw_408)) hce hcv hcl ?_
      refine lv_astore hx hb ld_load_17 hl (by decide) rfl (fun ls hl => ?_)
      refine lv_iconst (v := (2 : Int32)) hx hb ld_load_19 (by decide) ?_
      exact xl_iret C (by decide) (by decide) hF hK hP hD hS ld_load_20
set_option maxRecDepth 100000 in
theorem kw_859 : Cond.code ky_Loader_call kb_Loader_call 6 (some .int) ∈ xx_tb := xx_in (List.mem_append_right _ (List.mem_of_getElem? (i := 859) (by rfl))) (by decide +kernel)
theorem kw_856 : Cond.methodLink "ModuleLoaderLaw" 30 ky_Loader_call ∈ xx_tb := xx_in (List.mem_append_right _ (List.mem_of_getElem? (i := 856) (by decide +kernel))) (by decide +kernel)
theorem kw_857 : Cond.instanceMethod ky_Loader_call ∈ xx_tb := xx_in (List.mem_append_right _ (List.mem_of_getElem? (i := 857) (by decide +kernel))) (by decide +kernel)
theorem kw_858 : Cond.selects "ModuleLoader" ky_Loader_call ky_Loader_call ∈ xx_tb := xx_in (List.mem_append_right _ (List.mem_of_getElem? (i := 858) (by decide +kernel))) (by decide +kernel)
theorem ld_call_0 : decode kb_Law_call 0 = .ok (.aload 5, 2) := by decide +kernel
theorem ld_call_2 : decode kb_Law_call 2 = .ok (.iconst 0, 1) := by decide +kernel
theorem ld_call_3 : decode kb_Law_call 3 = .ok (.aload_n 0, 1) := by decide +kernel
theorem ld_call_4 : decode kb_Law_call 4 = .ok (.iload_n 1, 1) := by decide +kernel
theorem ld_call_5 : decode kb_Law_call 5 = .ok (.iload_n 2, 1) := by decide +kernel
theorem ld_call_6 : decode kb_Law_call 6 = .ok (.iload_n 3, 1) := by decide +kernel
theorem ld_call_7 : decode kb_Law_call 7 = .ok (.iload 4, 2) := by decide +kernel
theorem ld_call_9 : decode kb_Law_call 9 = .ok (.invokevirtual 30, 3) := by decide +kernel
theorem ld_call_12 : decode kb_Law_call 12 = .ok (.i2l, 1) := by decide +kernel
theorem ld_call_13 : decode kb_Law_call 13 = .ok (.lastore, 1) := by decide +kernel
theorem ld_call_14 : decode kb_Law_call 14 = .ok (.goto (11), 3) := by decide +kernel
theorem ld_call_17 : decode kb_Law_call 17 = .ok (.astore 6, 2) := by decide +kernel
theorem ld_call_19 : decode kb_Law_call 19 = .ok (.iconst 1, 1) := by decide +kernel
theorem ld_call_20 : decode kb_Law_call 20 = .ok (.ireturn, 1) := by decide +kernel
theorem ld_call_21 : decode kb_Law_call 21 = .ok (.astore 6, 2) := by decide +kernel
theorem ld_call_23 : decode kb_Law_call 23 = .ok (.iconst 2, 1) := by decide +kernel
theorem ld_call_24 : decode kb_Law_call 24 = .ok (.ireturn, 1) := by decide +kernel
theorem ld_call_25 : decode kb_Law_call 25 = .ok (.iconst 0, 1) := by decide +kernel
theorem ld_call_26 : decode kb_Law_call 26 = .ok (.ireturn, 1) := by decide +kernel
set_option maxHeartbeats 4000000 in
set_option maxRecDepth 100000 in
theorem lc_call (l : Launch) (hl0 : l.stackTraces = false) (g : xx_G) (aq : Nat → Nat) (o : Nat) (v : ll_S) (x1 x2 x3 x4 : Int32) (Hk : Option Value → ll_S → Prop) (hF : zp_Loader_call (fun rv u1 => ∃ r : Int32, rv = some (.int r) ∧ Hk (some (.int 0)) (u1, v.2.1, vp_updL v.2.2 ((0 : Int32).toNatClampNeg) r.toInt64)) (fun E u1 => (E = "java/lang/IllegalArgumentException" ∧ Hk (some (.int 1)) (u1, v.2)) ∨ (E = "java/lang/IllegalStateException" ∧ Hk (some (.int 2)) (u1, v.2))) v.1 x1 x2 x3 x4) : xl_M l g.1 (ll_T g) (ll_W g aq o) ky_Law_call kb_Law_call 7 (some .int) [(0, 14, 17, 21), (0, 14, 21, 15)] (xx_rmc 7 165 1 6) [.ref (g.2.1 0), .int x1, .int x2, .int x3, .int x4, .ref o] v Hk := by
  refine xl_body (by decide) (Nat.le_of_ble_eq_true rfl) ?_
  intro p e s m args below meth c A ls C hZ hAst htab hK hl hA hP hD hS
  have hx := C.1
  have hb := C.2.1
  have hown := C.2.2.2.1
  have hts := C.2.2.2.2.1
  have hl : lv_has ls 7 [(0, .ref (g.2.1 0)), (1, .int x1), (2, .int x2), (3, .int x3), (4, .int x4), (5, .ref o)] := hl
  have htab2 : c.exceptionTable.toList = [⟨0, 14, 17, 21⟩, ⟨0, 14, 21, 15⟩] := xl_tab htab
  refine lv_aload hx hb ld_call_0 (lv_at hl 5 rfl) ?_
  refine lv_iconst (v := (0 : Int32)) hx hb ld_call_2 (by decide) ?_
  refine lv_aload_n hx hb ld_call_3 rfl (lv_at hl 0 rfl) ?_
  refine lv_iload_n hx hb ld_call_4 rfl (lv_at hl 1 rfl) ?_
  refine lv_iload_n hx hb ld_call_5 rfl (lv_at hl 2 rfl) ?_
  refine lv_iload_n hx hb ld_call_6 rfl (lv_at hl 3 rfl) ?_
  refine lv_iload hx hb ld_call_7 (lv_at hl 4 rfl) ?_
  refine xw_callV (n := 4) (As := [.int x1, .int x2, .int x3, .int x4]) (rest := [.int (0 : Int32), .ref o]) C hZ hAst (ll_wz (zc_Loader_call l hl0 g v.1 x1 x2 x3 x4 _ _ hF)) ⟨kw_859, kw_856, kw_857, kw_858, kw_1⟩ ⟨by decide +kernel, by decide +kernel, by decide +kernel⟩ rfl ⟨Nat.le_of_ble_eq_true rfl, Nat.le_of_ble_eq_true rfl⟩ 16 rfl rfl hl.1 rfl (Nat.le_of_ble_eq_true rfl) hA hK hP hD hS ⟨by decide, by decide⟩ ld_call_9 (fun rv w H locs hPo hP hD hS => ?_) (fun q E ce w H locs hPx hP hD hS hce hcv hcl => ?_)
  · obtain ⟨hw2, r, rfl, hF⟩ := hPo
    rw [← hw2] at hF
    refine lv_i2l hx hb ld_call_12 rfl ?_
    refine va_last hx hb hK hP hD hS 15 4 rfl rfl xl_in0 ld_call_13 (fun H locs hP hD hS => ?_)
    have hP : va_P g.1 xx_cls (ll_W g aq o (w.1, w.2.1, vp_updL w.2.2 ((0 : Int32).toNatClampNeg) r.toInt64)) H := hP
    have hD : va_D A (ll_W g aq o (w.1, w.2.1, vp_updL w.2.2 ((0 : Int32).toNatClampNeg) r.toInt64)) := hD
    refine lv_goto (tgt := 25) hx hb ld_call_14 (by decide) ?_
    refine lv_iconst (v := (0 : Int32)) hx hb ld_call_25 (by decide) ?_
    exact xl_iret C (by decide) (by decide) hF hK hP hD hS ld_call_26
  · obtain ⟨hw2, hPx⟩ := hPx
    rcases hPx with ⟨rfl, hF⟩ | ⟨rfl, hF⟩
    · rw [← hw2] at hF
      refine xh_catch1 (nm := "java/lang/IllegalArgumentException") hown htab2 (by decide) (by decide) (hts _ kw_429) (xw_cast (hts _ kw_438)) hce hcv hcl ?_
      refine lv_astore hx hb ld_call_17 hl (by decide) rfl (fun ls hl => ?_)
      refine lv_iconst (v := (1 : Int32)) hx hb ld_call_19 (by decide) ?_
      exact xl_iret C (by decide) (by decide) hF hK hP hD hS ld_call_20
    · rw [← hw2] at hF
      refine xh_catch2 (nm := "java/lang/IllegalStateException") (nm1 := "java/lang/IllegalArgumentException") hown htab2 (by decide) (by decide) (hts _ kw_429) hZ.1.2.2 (by decide) (by decide) (hts _ kw_336) (xw_cast (hts _ kw_408)) hce hcv hcl ?_
      refine lv_astore hx hb ld_call_21 hl (by decide) rfl (fun ls hl => ?_)
      refine lv_iconst (v := (2 : Int32)) hx hb ld_call_23 (by decide) ?_
      exact xl_iret C (by decide) (by decide) hF hK hP hD hS ld_call_24
set_option maxRecDepth 100000 in
theorem kw_866 : Cond.code ky_Loader_peek kb_Loader_peek 2 (some .int) ∈ xx_tb := xx_in (List.mem_append_right _ (List.mem_of_getElem? (i := 866) (by rfl))) (by decide +kernel)
theorem kw_863 : Cond.methodLink "ModuleLoaderLaw" 34 ky_Loader_peek ∈ xx_tb := xx_in (List.mem_append_right _ (List.mem_of_getElem? (i := 863) (by decide +kernel))) (by decide +kernel)
theorem kw_864 : Cond.instanceMethod ky_Loader_peek ∈ xx_tb := xx_in (List.mem_append_right _ (List.mem_of_getElem? (i := 864) (by decide +kernel))) (by decide +kernel)
theorem kw_865 : Cond.selects "ModuleLoader" ky_Loader_peek ky_Loader_peek ∈ xx_tb := xx_in (List.mem_append_right _ (List.mem_of_getElem? (i := 865) (by decide +kernel))) (by decide +kernel)
theorem ld_peek_0 : decode kb_Law_peek 0 = .ok (.aload_n 2, 1) := by decide +kernel
theorem ld_peek_1 : decode kb_Law_peek 1 = .ok (.iconst 0, 1) := by decide +kernel
theorem ld_peek_2 : decode kb_Law_peek 2 = .ok (.aload_n 0, 1) := by decide +kernel
theorem ld_peek_3 : decode kb_Law_peek 3 = .ok (.iload_n 1, 1) := by decide +kernel
theorem ld_peek_4 : decode kb_Law_peek 4 = .ok (.invokevirtual 34, 3) := by decide +kernel
theorem ld_peek_7 : decode kb_Law_peek 7 = .ok (.i2l, 1) := by decide +kernel
theorem ld_peek_8 : decode kb_Law_peek 8 = .ok (.lastore, 1) := by decide +kernel
theorem ld_peek_9 : decode kb_Law_peek 9 = .ok (.goto (6), 3) := by decide +kernel
theorem ld_peek_12 : decode kb_Law_peek 12 = .ok (.astore_n 3, 1) := by decide +kernel
theorem ld_peek_13 : decode kb_Law_peek 13 = .ok (.iconst 1, 1) := by decide +kernel
theorem ld_peek_14 : decode kb_Law_peek 14 = .ok (.ireturn, 1) := by decide +kernel
theorem ld_peek_15 : decode kb_Law_peek 15 = .ok (.iconst 0, 1) := by decide +kernel
theorem ld_peek_16 : decode kb_Law_peek 16 = .ok (.ireturn, 1) := by decide +kernel
set_option maxHeartbeats 4000000 in
set_option maxRecDepth 100000 in
theorem lc_peek (l : Launch) (hl0 : l.stackTraces = false) (g : xx_G) (aq : Nat → Nat) (o : Nat) (v : ll_S) (x1 : Int32) (Hk : Option Value → ll_S → Prop) (hF : zp_Loader_peek (fun rv u1 => ∃ r : Int32, rv = some (.int r) ∧ Hk (some (.int 0)) (u1, v.2.1, vp_updL v.2.2 ((0 : Int32).toNatClampNeg) r.toInt64)) (fun E u1 => (E = "java/lang/IndexOutOfBoundsException" ∧ Hk (some (.int 1)) (u1, v.2))) v.1 x1) : xl_M l g.1 (ll_T g) (ll_W g aq o) ky_Law_peek kb_Law_peek 4 (some .int) [(0, 9, 12, 13)] (xx_rmc 7 111 1 6) [.ref (g.2.1 0), .int x1, .ref o] v Hk := by
  refine xl_body (by decide) (Nat.le_of_ble_eq_true rfl) ?_
  intro p e s m args below meth c A ls C hZ hAst htab hK hl hA hP hD hS
  have hx := C.1
  have hb := C.2.1
  have hown := C.2.2.2.1
  have hts := C.2.2.2.2.1
  have hl : lv_has ls 4 [(0, .ref (g.2.1 0)), (1, .int x1), (2, .ref o)] := hl
  have htab2 : c.exceptionTable.toList = [⟨0, 9, 12, 13⟩] := xl_tab htab
  refine lv_aload_n hx hb ld_peek_0 rfl (lv_at hl 2 rfl) ?_
  refine lv_iconst (v := (0 : Int32)) hx hb ld_peek_1 (by decide) ?_
  refine lv_aload_n hx hb ld_peek_2 rfl (lv_at hl 0 rfl) ?_
  refine lv_iload_n hx hb ld_peek_3 rfl (lv_at hl 1 rfl) ?_
  refine xw_callV (n := 1) (As := [.int x1]) (rest := [.int (0 : Int32), .ref o]) C hZ hAst (ll_wz (zc_Loader_peek l hl0 g v.1 x1 _ _ hF)) ⟨kw_866, kw_863, kw_864, kw_865, kw_1⟩ ⟨by decide +kernel, by decide +kernel, by decide +kernel⟩ rfl ⟨Nat.le_of_ble_eq_true rfl, Nat.le_of_ble_eq_true rfl⟩ 16 rfl rfl hl.1 rfl (Nat.le_of_ble_eq_true rfl) hA hK hP hD hS ⟨by decide, by decide⟩ ld_peek_4 (fun rv w H locs hPo hP hD hS => ?_) (fun q E ce w H locs hPx hP hD hS hce hcv hcl => ?_)
  · obtain ⟨hw2, r, rfl, hF⟩ := hPo
    rw [← hw2] at hF
    refine lv_i2l hx hb ld_peek_7 rfl ?_
    refine va_last hx hb hK hP hD hS 15 4 rfl rfl xl_in0 ld_peek_8 (fun H locs hP hD hS => ?_)
    have hP : va_P g.1 xx_cls (ll_W g aq o (w.1, w.2.1, vp_updL w.2.2 ((0 : Int32).toNatClampNeg) r.toInt64)) H := hP
    have hD : va_D A (ll_W g aq o (w.1, w.2.1, vp_updL w.2.2 ((0 : Int32).toNatClampNeg) r.toInt64)) := hD
    refine lv_goto (tgt := 15) hx hb ld_peek_9 (by decide) ?_
    refine lv_iconst (v := (0 : Int32)) hx hb ld_peek_15 (by decide) ?_
    exact xl_iret C (by decide) (by decide) hF hK hP hD hS ld_peek_16
  · obtain ⟨hw2, hPx⟩ := hPx
    obtain ⟨rfl, hF⟩ := hPx
    rw [← hw2] at hF
    refine xh_catch1 (nm := "java/lang/IndexOutOfBoundsException") hown htab2 (by decide) (by decide) (hts _ kw_335) (xw_cast (hts _ kw_345)) hce hcv hcl ?_
    refine lv_astore_n hx hb ld_peek_12 rfl hl (by decide) rfl (fun ls hl => ?_)
    refine lv_iconst (v := (1 : Int32)) hx hb ld_peek_13 (by decide) ?_
    exact xl_iret C (by decide) (by decide) hF hK hP hD hS ld_peek_14
