theorem kw_506 : Cond.methodLink "ModuleLoader$ModuleFile" 15 ky_Tape_length ∈ xx_tb := xx_in (List.mem_append_right _ (List.mem_of_getElem? (i := 506) (by decide +kernel))) (by decide +kernel)
theorem kw_511 : Cond.constant "ModuleLoader$ModuleFile" 25 (1297040469 : Int32) ∈ xx_tb := xx_in (List.mem_append_right _ (List.mem_of_getElem? (i := 511) (by decide +kernel))) (by decide +kernel)
set_option maxRecDepth 100000 in
theorem kw_515 : Cond.code ky_ModuleFile_readHeader kb_ModuleFile_readHeader 1 none ∈ xx_tb := xx_in (List.mem_append_right _ (List.mem_of_getElem? (i := 515) (by rfl))) (by decide +kernel)
theorem kw_512 : Cond.methodLink "ModuleLoader$ModuleFile" 26 ky_ModuleFile_readHeader ∈ xx_tb := xx_in (List.mem_append_right _ (List.mem_of_getElem? (i := 512) (by decide +kernel))) (by decide +kernel)
theorem kw_514 : Cond.instanceMethod ky_ModuleFile_readHeader ∈ xx_tb := xx_in (List.mem_append_right _ (List.mem_of_getElem? (i := 514) (by decide +kernel))) (by decide +kernel)
theorem ks_ModuleFile_readHeader : Cond.selects "ModuleLoader$ModuleFile" ky_ModuleFile_readHeader ky_ModuleFile_readHeader ∈ xx_tb := xx_in (List.mem_append_left _ (by decide +kernel)) (by decide +kernel)
set_option maxRecDepth 100000 in
theorem kw_519 : Cond.code ky_ModuleFile_headerHolds kb_ModuleFile_headerHolds 1 (some .boolean) ∈ xx_tb := xx_in (List.mem_append_right _ (List.mem_of_getElem? (i := 519) (by rfl))) (by decide +kernel)
theorem kw_516 : Cond.methodLink "ModuleLoader$ModuleFile" 29 ky_ModuleFile_headerHolds ∈ xx_tb := xx_in (List.mem_append_right _ (List.mem_of_getElem? (i := 516) (by decide +kernel))) (by decide +kernel)
theorem kw_518 : Cond.instanceMethod ky_ModuleFile_headerHolds ∈ xx_tb := xx_in (List.mem_append_right _ (List.mem_of_getElem? (i := 518) (by decide +kernel))) (by decide +kernel)
theorem ks_ModuleFile_headerHolds : Cond.selects "ModuleLoader$ModuleFile" ky_ModuleFile_headerHolds ky_ModuleFile_headerHolds ∈ xx_tb := xx_in (List.mem_append_left _ (by decide +kernel)) (by decide +kernel)
set_option maxRecDepth 100000 in
theorem kw_531 : Cond.code ky_ModuleFile_importsHold kb_ModuleFile_importsHold 2 (some .boolean) ∈ xx_tb := xx_in (List.mem_append_right _ (List.mem_of_getElem? (i := 531) (by rfl))) (by decide +kernel)
theorem kw_528 : Cond.methodLink "ModuleLoader$ModuleFile" 55 ky_ModuleFile_importsHold ∈ xx_tb := xx_in (List.mem_append_right _ (List.mem_of_getElem? (i := 528) (by decide +kernel))) (by decide +kernel)
theorem kw_530 : Cond.instanceMethod ky_ModuleFile_importsHold ∈ xx_tb := xx_in (List.mem_append_right _ (List.mem_of_getElem? (i := 530) (by decide +kernel))) (by decide +kernel)
theorem ks_ModuleFile_importsHold : Cond.selects "ModuleLoader$ModuleFile" ky_ModuleFile_importsHold ky_ModuleFile_importsHold ∈ xx_tb := xx_in (List.mem_append_left _ (by decide +kernel)) (by decide +kernel)
set_option maxRecDepth 100000 in
theorem kw_540 : Cond.code ky_ModuleFile_exportsHold kb_ModuleFile_exportsHold 2 (some .boolean) ∈ xx_tb := xx_in (List.mem_append_right _ (List.mem_of_getElem? (i := 540) (by rfl))) (by decide +kernel)
theorem kw_537 : Cond.methodLink "ModuleLoader$ModuleFile" 58 ky_ModuleFile_exportsHold ∈ xx_tb := xx_in (List.mem_append_right _ (List.mem_of_getElem? (i := 537) (by decide +kernel))) (by decide +kernel)
theorem kw_539 : Cond.instanceMethod ky_ModuleFile_exportsHold ∈ xx_tb := xx_in (List.mem_append_right _ (List.mem_of_getElem? (i := 539) (by decide +kernel))) (by decide +kernel)
theorem ks_ModuleFile_exportsHold : Cond.selects "ModuleLoader$ModuleFile" ky_ModuleFile_exportsHold ky_ModuleFile_exportsHold ∈ xx_tb := xx_in (List.mem_append_left _ (by decide +kernel)) (by decide +kernel)
set_option maxRecDepth 100000 in
theorem kw_556 : Cond.code ky_ModuleFile_placesHold kb_ModuleFile_placesHold 3 (some .boolean) ∈ xx_tb := xx_in (List.mem_append_right _ (List.mem_of_getElem? (i := 556) (by rfl))) (by decide +kernel)
theorem kw_553 : Cond.methodLink "ModuleLoader$ModuleFile" 61 ky_ModuleFile_placesHold ∈ xx_tb := xx_in (List.mem_append_right _ (List.mem_of_getElem? (i := 553) (by decide +kernel))) (by decide +kernel)
theorem kw_555 : Cond.instanceMethod ky_ModuleFile_placesHold ∈ xx_tb := xx_in (List.mem_append_right _ (List.mem_of_getElem? (i := 555) (by decide +kernel))) (by decide +kernel)
theorem ks_ModuleFile_placesHold : Cond.selects "ModuleLoader$ModuleFile" ky_ModuleFile_placesHold ky_ModuleFile_placesHold ∈ xx_tb := xx_in (List.mem_append_left _ (by decide +kernel)) (by decide +kernel)
theorem zd_ModuleFile_read_0 : decode kb_ModuleFile_read 0 = .ok (.aload_n 0, 1) := by decide +kernel
theorem zd_ModuleFile_read_1 : decode kb_ModuleFile_read 1 = .ok (.getfield 9, 3) := by decide +kernel
theorem zd_ModuleFile_read_4 : decode kb_ModuleFile_read 4 = .ok (.invokevirtual 15, 3) := by decide +kernel
theorem zd_ModuleFile_read_7 : decode kb_ModuleFile_read 7 = .ok (.bipush (32), 2) := by decide +kernel
theorem zd_ModuleFile_read_9 : decode kb_ModuleFile_read 9 = .ok (.if_icmp .lt (16), 3) := by decide +kernel
theorem zd_ModuleFile_read_12 : decode kb_ModuleFile_read 12 = .ok (.aload_n 0, 1) := by decide +kernel
theorem zd_ModuleFile_read_13 : decode kb_ModuleFile_read 13 = .ok (.getfield 9, 3) := by decide +kernel
theorem zd_ModuleFile_read_16 : decode kb_ModuleFile_read 16 = .ok (.iconst 0, 1) := by decide +kernel
theorem zd_ModuleFile_read_17 : decode kb_ModuleFile_read 17 = .ok (.invokevirtual 21, 3) := by decide +kernel
theorem zd_ModuleFile_read_20 : decode kb_ModuleFile_read 20 = .ok (.ldc 25, 2) := by decide +kernel
theorem zd_ModuleFile_read_22 : decode kb_ModuleFile_read 22 = .ok (.if_icmp .eq (5), 3) := by decide +kernel
theorem zd_ModuleFile_read_25 : decode kb_ModuleFile_read 25 = .ok (.iconst 0, 1) := by decide +kernel
theorem zd_ModuleFile_read_26 : decode kb_ModuleFile_read 26 = .ok (.ireturn, 1) := by decide +kernel
theorem zd_ModuleFile_read_27 : decode kb_ModuleFile_read 27 = .ok (.aload_n 0, 1) := by decide +kernel
theorem zd_ModuleFile_read_28 : decode kb_ModuleFile_read 28 = .ok (.invokevirtual 26, 3) := by decide +kernel
theorem zd_ModuleFile_read_31 : decode kb_ModuleFile_read 31 = .ok (.aload_n 0, 1) := by decide +kernel
theorem zd_ModuleFile_read_32 : decode kb_ModuleFile_read 32 = .ok (.invokevirtual 29, 3) := by decide +kernel
theorem zd_ModuleFile_read_35 : decode kb_ModuleFile_read 35 = .ok (.ifCond .ne (5), 3) := by decide +kernel
theorem zd_ModuleFile_read_38 : decode kb_ModuleFile_read 38 = .ok (.iconst 0, 1) := by decide +kernel
theorem zd_ModuleFile_read_39 : decode kb_ModuleFile_read 39 = .ok (.ireturn, 1) := by decide +kernel
theorem zd_ModuleFile_read_40 : decode kb_ModuleFile_read 40 = .ok (.aload_n 0, 1) := by decide +kernel
theorem zd_ModuleFile_read_41 : decode kb_ModuleFile_read 41 = .ok (.bipush (8), 2) := by decide +kernel
theorem zd_ModuleFile_read_43 : decode kb_ModuleFile_read 43 = .ok (.aload_n 0, 1) := by decide +kernel
theorem zd_ModuleFile_read_44 : decode kb_ModuleFile_read 44 = .ok (.getfield 33, 3) := by decide +kernel
theorem zd_ModuleFile_read_47 : decode kb_ModuleFile_read 47 = .ok (.iconst 4, 1) := by decide +kernel
theorem zd_ModuleFile_read_48 : decode kb_ModuleFile_read 48 = .ok (.idiv, 1) := by decide +kernel
theorem zd_ModuleFile_read_49 : decode kb_ModuleFile_read 49 = .ok (.iadd, 1) := by decide +kernel
theorem zd_ModuleFile_read_50 : decode kb_ModuleFile_read 50 = .ok (.putfield 37, 3) := by decide +kernel
theorem zd_ModuleFile_read_53 : decode kb_ModuleFile_read 53 = .ok (.aload_n 0, 1) := by decide +kernel
theorem zd_ModuleFile_read_54 : decode kb_ModuleFile_read 54 = .ok (.aload_n 0, 1) := by decide +kernel
theorem zd_ModuleFile_read_55 : decode kb_ModuleFile_read 55 = .ok (.getfield 37, 3) := by decide +kernel
theorem zd_ModuleFile_read_58 : decode kb_ModuleFile_read 58 = .ok (.iconst 2, 1) := by decide +kernel
theorem zd_ModuleFile_read_59 : decode kb_ModuleFile_read 59 = .ok (.aload_n 0, 1) := by decide +kernel
theorem zd_ModuleFile_read_60 : decode kb_ModuleFile_read 60 = .ok (.getfield 40, 3) := by decide +kernel
theorem zd_ModuleFile_read_63 : decode kb_ModuleFile_read 63 = .ok (.imul, 1) := by decide +kernel
theorem zd_ModuleFile_read_64 : decode kb_ModuleFile_read 64 = .ok (.iadd, 1) := by decide +kernel
theorem zd_ModuleFile_read_65 : decode kb_ModuleFile_read 65 = .ok (.putfield 43, 3) := by decide +kernel
theorem zd_ModuleFile_read_68 : decode kb_ModuleFile_read 68 = .ok (.aload_n 0, 1) := by decide +kernel
theorem zd_ModuleFile_read_69 : decode kb_ModuleFile_read 69 = .ok (.aload_n 0, 1) := by decide +kernel
theorem zd_ModuleFile_read_70 : decode kb_ModuleFile_read 70 = .ok (.getfield 43, 3) := by decide +kernel
theorem zd_ModuleFile_read_73 : decode kb_ModuleFile_read 73 = .ok (.iconst 3, 1) := by decide +kernel
theorem zd_ModuleFile_read_74 : decode kb_ModuleFile_read 74 = .ok (.aload_n 0, 1) := by decide +kernel
theorem zd_ModuleFile_read_75 : decode kb_ModuleFile_read 75 = .ok (.getfield 46, 3) := by decide +kernel
theorem zd_ModuleFile_read_78 : decode kb_ModuleFile_read 78 = .ok (.imul, 1) := by decide +kernel
theorem zd_ModuleFile_read_79 : decode kb_ModuleFile_read 79 = .ok (.iadd, 1) := by decide +kernel
theorem zd_ModuleFile_read_80 : decode kb_ModuleFile_read 80 = .ok (.putfield 49, 3) := by decide +kernel
theorem zd_ModuleFile_read_83 : decode kb_ModuleFile_read 83 = .ok (.aload_n 0, 1) := by decide +kernel
theorem zd_ModuleFile_read_84 : decode kb_ModuleFile_read 84 = .ok (.getfield 49, 3) := by decide +kernel
theorem zd_ModuleFile_read_87 : decode kb_ModuleFile_read 87 = .ok (.iconst 4, 1) := by decide +kernel
theorem zd_ModuleFile_read_88 : decode kb_ModuleFile_read 88 = .ok (.aload_n 0, 1) := by decide +kernel
theorem zd_ModuleFile_read_89 : decode kb_ModuleFile_read 89 = .ok (.getfield 52, 3) := by decide +kernel
theorem zd_ModuleFile_read_92 : decode kb_ModuleFile_read 92 = .ok (.imul, 1) := by decide +kernel
theorem zd_ModuleFile_read_93 : decode kb_ModuleFile_read 93 = .ok (.iadd, 1) := by decide +kernel
theorem zd_ModuleFile_read_94 : decode kb_ModuleFile_read 94 = .ok (.istore_n 1, 1) := by decide +kernel
theorem zd_ModuleFile_read_95 : decode kb_ModuleFile_read 95 = .ok (.aload_n 0, 1) := by decide +kernel
theorem zd_ModuleFile_read_96 : decode kb_ModuleFile_read 96 = .ok (.getfield 9, 3) := by decide +kernel
theorem zd_ModuleFile_read_99 : decode kb_ModuleFile_read 99 = .ok (.invokevirtual 15, 3) := by decide +kernel
theorem zd_ModuleFile_read_102 : decode kb_ModuleFile_read 102 = .ok (.iconst 4, 1) := by decide +kernel
theorem zd_ModuleFile_read_103 : decode kb_ModuleFile_read 103 = .ok (.iload_n 1, 1) := by decide +kernel
theorem zd_ModuleFile_read_104 : decode kb_ModuleFile_read 104 = .ok (.imul, 1) := by decide +kernel
theorem zd_ModuleFile_read_105 : decode kb_ModuleFile_read 105 = .ok (.if_icmp .ne (28), 3) := by decide +kernel
theorem zd_ModuleFile_read_108 : decode kb_ModuleFile_read 108 = .ok (.aload_n 0, 1) := by decide +kernel
theorem zd_ModuleFile_read_109 : decode kb_ModuleFile_read 109 = .ok (.invokevirtual 55, 3) := by decide +kernel
theorem zd_ModuleFile_read_112 : decode kb_ModuleFile_read 112 = .ok (.ifCond .eq (21), 3) := by decide +kernel
theorem zd_ModuleFile_read_115 : decode kb_ModuleFile_read 115 = .ok (.aload_n 0, 1) := by decide +kernel
theorem zd_ModuleFile_read_116 : decode kb_ModuleFile_read 116 = .ok (.invokevirtual 58, 3) := by decide +kernel
theorem zd_ModuleFile_read_119 : decode kb_ModuleFile_read 119 = .ok (.ifCond .eq (14), 3) := by decide +kernel
theorem zd_ModuleFile_read_122 : decode kb_ModuleFile_read 122 = .ok (.aload_n 0, 1) := by decide +kernel
theorem zd_ModuleFile_read_123 : decode kb_ModuleFile_read 123 = .ok (.invokevirtual 61, 3) := by decide +kernel
theorem zd_ModuleFile_read_126 : decode kb_ModuleFile_read 126 = .ok (.ifCond .eq (7), 3) := by decide +kernel
theorem zd_ModuleFile_read_129 : decode kb_ModuleFile_read 129 = .ok (.iconst 1, 1) := by decide +kernel
theorem zd_ModuleFile_read_130 : decode kb_ModuleFile_read 130 = .ok (.goto (4), 3) := by decide +kernel
theorem zd_ModuleFile_read_133 : decode kb_ModuleFile_read 133 = .ok (.iconst 0, 1) := by decide +kernel
theorem zd_ModuleFile_read_134 : decode kb_ModuleFile_read 134 = .ok (.ireturn, 1) := by decide +kernel
def zf_ModuleFile_read_b25 (u : zz_S) : Option (Int32 × zz_S) := some (vp_nar .boolean (0 : Int32), u)
def zf_ModuleFile_read_b134 (u : zz_S) (y0 : Int32) : Option (Int32 × zz_S) := some (vp_nar .boolean y0, u)
def zf_ModuleFile_read_b133 (u : zz_S) : Option (Int32 × zz_S) := zf_ModuleFile_read_b134 u (0 : Int32)
def zf_ModuleFile_read (u : zz_S) : Option (Int32 × zz_S) := xx_b2 (zf_Tape_length u) fun v2 u1 => if v2 < (32 : Int32) then (zf_ModuleFile_read_b25 u1) else (xx_b2 (zf_Tape_wordAt u1 (0 : Int32)) fun v4 u3 => if v4 = (1297040469 : Int32) then ((zf_ModuleFile_readHeader u3).bind fun u5 => xx_b2 (zf_ModuleFile_headerHolds u5) fun v7 u6 => if v7 = 0 then (some (vp_nar .boolean (0 : Int32), u6)) else (xx_nm ((8 : Int32) + ((u6.1 5) / (4 : Int32))) fun v8 => xx_nm (va_up u6.1 12 v8, u6.2) fun u9 => xx_nm ((u9.1 12) + ((2 : Int32) * (u9.1 6))) fun v10 => xx_nm (va_up u9.1 13 v10, u9.2) fun u11 => xx_nm ((u11.1 13) + ((3 : Int32) * (u11.1 7))) fun v12 => xx_nm (va_up u11.1 14 v12, u11.2) fun u13 => xx_nm ((u13.1 14) + ((4 : Int32) * (u13.1 8))) fun v14 => xx_b2 (zf_Tape_length u13) fun v16 u15 => if v16 = ((4 : Int32) * v14) then (xx_b2 (zf_ModuleFile_importsHold u15) fun v18 u17 => if v18 = 0 then (zf_ModuleFile_read_b133 u17) else (xx_b2 (zf_ModuleFile_exportsHold u17) fun v20 u19 => if v20 = 0 then (zf_ModuleFile_read_b133 u19) else (xx_b2 (zf_ModuleFile_placesHold u19) fun v22 u21 => if v22 = 0 then (zf_ModuleFile_read_b133 u21) else (zf_ModuleFile_read_b134 u21 (1 : Int32))))) else (zf_ModuleFile_read_b133 u15))) else (zf_ModuleFile_read_b25 u3))
set_option maxHeartbeats 4000000 in
set_option maxRecDepth 100000 in
theorem zw_ModuleFile_read_b25 {p : Program} {l : Launch} {e : Env} {s : State} {m : MethodId} {args : Array Value} {below : List Frame} {meth : Method} {c : Code} {A : Nat → Prop} {g : xx_G} {r : Int32} {u9 : zz_S} (C : xx_C p s m args meth c kb_ModuleFile_read 2 kr_ModuleFile (some .boolean)) (hA : ∀ q, s.heap.size ≤ q → A q) (hK : va_K g.1 xx_cls (zz_T g) s) : ∀ (u : zz_S) (H : Heap) (locs : List Loc) (ls : Array Slot), zf_ModuleFile_read_b25 u = some (r, u9) → lv_has ls 2 [] → va_P g.1 xx_cls (zz_W g u) H → va_D A (zz_W g u) → va_S A s.heap H locs → W p l e (xx_rm 4 85) s m args below meth c H locs 0 0 (MQ below (xx_Q g.1 (zz_T g) (zz_W g) (some (.int r)) u9 A) args s 0 0 A) (F0 m 25 ls []) := by
  have hx := C.1
  have hb := C.2.1
  have hown := C.2.2.2.1
  have hts := C.2.2.2.2.1
  intro u H locs ls hF hl hP hD hS
  unfold zf_ModuleFile_read_b25 at hF
  refine lv_iconst (v := (0 : Int32)) hx hb zd_ModuleFile_read_25 (by decide) ?_
  exact xx_zret C hF hK hP hD hS zd_ModuleFile_read_26
set_option maxHeartbeats 4000000 in
set_option maxRecDepth 100000 in
theorem zw_ModuleFile_read_b134 {p : Program} {l : Launch} {e : Env} {s : State} {m : MethodId} {args : Array Value} {below : List Frame} {meth : Method} {c : Code} {A : Nat → Prop} {g : xx_G} {r : Int32} {u9 : zz_S} (C : xx_C p s m args meth c kb_ModuleFile_read 2 kr_ModuleFile (some .boolean)) (hA : ∀ q, s.heap.size ≤ q → A q) (hK : va_K g.1 xx_cls (zz_T g) s) : ∀ (u : zz_S) (y0 : Int32) (H : Heap) (locs : List Loc) (ls : Array Slot), zf_ModuleFile_read_b134 u y0 = some (r, u9) → lv_has ls 2 [] → va_P g.1 xx_cls (zz_W g u) H → va_D A (zz_W g u) → va_S A s.heap H locs → W p l e (xx_rm 4 85) s m args below meth c H locs 0 0 (MQ below (xx_Q g.1 (zz_T g) (zz_W g) (some (.int r)) u9 A) args s 0 0 A) (F0 m 134 ls [.int y0]) := by
  have hx := C.1
  have hb := C.2.1
  have hown := C.2.2.2.1
  have hts := C.2.2.2.2.1
  intro u y0 H locs ls hF hl hP hD hS
  unfold zf_ModuleFile_read_b134 at hF
  exact xx_zret C hF hK hP hD hS zd_ModuleFile_read_134
set_option maxHeartbeats 4000000 in
set_option maxRecDepth 100000 in
theorem zw_ModuleFile_read_b133 {p : Program} {l : Launch} {e : Env} {s : State} {m : MethodId} {args : Array Value} {below : List Frame} {meth : Method} {c : Code} {A : Nat → Prop} {g : xx_G} {r : Int32} {u9 : zz_S} (C : xx_C p s m args meth c kb_ModuleFile_read 2 kr_ModuleFile (some .boolean)) (hA : ∀ q, s.heap.size ≤ q → A q) (hK : va_K g.1 xx_cls (zz_T g) s) : ∀ (u : zz_S) (H : Heap) (locs : List Loc) (ls : Array Slot), zf_ModuleFile_read_b133 u = some (r, u9) → lv_has ls 2 [] → va_P g.1 xx_cls (zz_W g u) H → va_D A (zz_W g u) → va_S A s.heap H locs → W p l e (xx_rm 4 85) s m args below meth c H locs 0 0 (MQ below (xx_Q g.1 (zz_T g) (zz_W g) (some (.int r)) u9 A) args s 0 0 A) (F0 m 133 ls []) := by
  have hx := C.1
  have hb := C.2.1
  have hown := C.2.2.2.1
  have hts := C.2.2.2.2.1
  intro u H locs ls hF hl hP hD hS
  unfold zf_ModuleFile_read_b133 at hF
  refine lv_iconst (v := (0 : Int32)) hx hb zd_ModuleFile_read_133 (by decide) ?_
  exact zw_ModuleFile_read_b134 C hA hK  u (0 : Int32) _ _ _ hF (lv_sub hl [] rfl) hP hD hS
set_option maxHeartbeats 4000000 in
set_option maxRecDepth 100000 in
theorem zc_ModuleFile_read (l : Launch) (g : xx_G) (u : zz_S) (r : Int32) (u9 : zz_S) (hF : zf_ModuleFile_read u = some (r, u9)) : xx_M l g.1 (zz_T g) (zz_W g) ky_ModuleFile_read kb_ModuleFile_read 2 (some .boolean) (xx_rm 4 85) [.ref (g.2.1 8)] u (some (.int r)) u9 := by
  refine xx_body (by decide) (Nat.le_of_ble_eq_true rfl) ?_
  intro p e s m args below meth c A ls C hin hK hl hA hP hD hS
  have hx := C.1
  have hb := C.2.1
  have hown := C.2.2.2.1
  have hts := C.2.2.2.2.1
  have hl : lv_has ls 2 [(0, .ref (g.2.1 8))] := hl
  unfold zf_ModuleFile_read at hF
  refine lv_aload_n hx hb zd_ModuleFile_read_0 rfl (lv_at hl 0 rfl) ?_
  refine xx_get C ki_ModuleFile hK hP 8 rfl rfl 7 (by decide) kw_103 rfl rfl zd_ModuleFile_read_1 ?_
  obtain ⟨v2, u1, eu1, hF⟩ := xx_b2_some hF
  refine xx_callV (n := 0) (As := []) (rest := []) C (zc_Tape_length l g u v2 u1 eu1) ⟨kw_239, kw_506, kw_237, kw_238, kw_4⟩ ⟨by decide +kernel, by decide +kernel, by decide +kernel⟩ rfl ⟨Nat.le_of_ble_eq_true rfl, Nat.le_of_ble_eq_true rfl⟩ 6 rfl rfl hl.1 rfl (Nat.le_of_ble_eq_true rfl) hA hK hP hD hS ⟨Nat.le_refl _, Nat.le_refl _⟩ rfl rfl rfl zd_ModuleFile_read_4 (fun H locs hP hD hS => ?_)
  refine lv_bipush (v := (32 : Int32)) hx hb zd_ModuleFile_read_7 (by decide) ?_
  refine lv_icmp_lt (tgt := 25) hx hb zd_ModuleFile_read_9 (by decide) (fun hc => ?_) (fun hc => ?_)
  · have hF := xx_ip hc hF
    exact zw_ModuleFile_read_b25 C hA hK  u1 _ _ _ hF (lv_sub hl [] rfl) hP hD hS
  · have hF := xx_in' hc hF
    refine lv_aload_n hx hb zd_ModuleFile_read_12 rfl (lv_at hl 0 rfl) ?_
    refine xx_get C ki_ModuleFile hK hP 8 rfl rfl 7 (by decide) kw_103 rfl rfl zd_ModuleFile_read_13 ?_
    refine lv_iconst (v := (0 : Int32)) hx hb zd_ModuleFile_read_16 (by decide) ?_
    obtain ⟨v4, u3, eu3, hF⟩ := xx_b2_some hF
    refine xx_callV (n := 1) (As := [.int (0 : Int32)]) (rest := []) C (zc_Tape_wordAt l g u1 (0 : Int32) v4 u3 eu3) ⟨kw_510, kw_507, kw_508, kw_509, kw_4⟩ ⟨by decide +kernel, by decide +kernel, by decide +kernel⟩ rfl ⟨Nat.le_of_ble_eq_true rfl, Nat.le_of_ble_eq_true rfl⟩ 6 rfl rfl hl.1 rfl (Nat.le_of_ble_eq_true rfl) hA hK hP hD hS ⟨Nat.le_refl _, Nat.le_refl _⟩ rfl rfl rfl zd_ModuleFile_read_17 (fun H locs hP hD hS => ?_)
    refine lv_ldc (v := (1297040469 : Int32)) hx hb hown (hts _ kw_511) zd_ModuleFile_read_20 ?_
    refine lv_icmp_eq (tgt := 27) hx hb zd_ModuleFile_read_22 (by decide) (fun hc => ?_) (fun hc => ?_)
    · have hF := xx_ip hc hF
      refine lv_aload_n hx hb zd_ModuleFile_read_27 rfl (lv_at hl 0 rfl) ?_
      obtain ⟨u5, eu5, hF⟩ := xx_ob hF
      refine xx_callV (n := 0) (As := []) (rest := []) C (zc_ModuleFile_readHeader l g u3 u5 eu5) ⟨kw_515, kw_512, kw_514, ks_ModuleFile_readHeader, kw_5⟩ ⟨by decide +kernel, by decide +kernel, by decide +kernel⟩ rfl ⟨Nat.le_of_ble_eq_true rfl, Nat.le_of_ble_eq_true rfl⟩ 8 rfl rfl hl.1 rfl (Nat.le_of_ble_eq_true rfl) hA hK hP hD hS ⟨Nat.le_refl _, Nat.le_refl _⟩ rfl rfl rfl zd_ModuleFile_read_28 (fun H locs hP hD hS => ?_)
      refine lv_aload_n hx hb zd_ModuleFile_read_31 rfl (lv_at hl 0 rfl) ?_
      obtain ⟨v7, u6, eu6, hF⟩ := xx_b2_some hF
      refine xx_callV (n := 0) (As := []) (rest := []) C (zc_ModuleFile_headerHolds l g u5 v7 u6 eu6) ⟨kw_519, kw_516, kw_518, ks_ModuleFile_headerHolds, kw_5⟩ ⟨by decide +kernel, by decide +kernel, by decide +kernel⟩ rfl ⟨Nat.le_of_ble_eq_true rfl, Nat.le_of_ble_eq_true rfl⟩ 8 rfl rfl hl.1 rfl (Nat.le_of_ble_eq_true rfl) hA hK hP hD hS ⟨Nat.le_refl _, Nat.le_refl _⟩ rfl rfl rfl zd_ModuleFile_read_32 (fun H locs hP hD hS => ?_)
      refine lv_if_ne (tgt := 40) hx hb zd_ModuleFile_read_35 (by decide) (fun hc => ?_) (fun hc => ?_)
      · have hF := xx_in' hc hF
        refine lv_aload_n hx hb zd_ModuleFile_read_40 rfl (lv_at hl 0 rfl) ?_
        refine lv_bipush (v := (8 : Int32)) hx hb zd_ModuleFile_read_41 (by decide) ?_
        refine lv_aload_n hx hb zd_ModuleFile_read_43 rfl (lv_at hl 0 rfl) ?_
        refine xx_get C ki_ModuleFile hK hP 8 rfl rfl 0 (by decide) kw_88 rfl rfl zd_ModuleFile_read_44 ?_
        refine lv_iconst (v := (4 : Int32)) hx hb zd_ModuleFile_read_47 (by decide) ?_
        refine lv_idiv hx hb zd_ModuleFile_read_48 (by decide) ?_
        refine lv_iadd hx hb zd_ModuleFile_read_49 ?_
        obtain ⟨v8, ev8, hF⟩ := xx_nm_some hF
        refine xx_topi ev8 ?_
        obtain ⟨u9, eu9, hF⟩ := xx_nm_some hF
        refine xx_put (ws1 := zz_W g u9) C ki_ModuleFile kt_ModuleFile ko_ModuleFile kn_ModuleFile hK hP hD hS 8 rfl rfl 8 (by decide) kw_104 rfl rfl rfl rfl (Nat.le_of_ble_eq_true rfl) (by rw [eu9]; rfl) zd_ModuleFile_read_50 (fun H locs hP hD hS => ?_)
        refine lv_aload_n hx hb zd_ModuleFile_read_53 rfl (lv_at hl 0 rfl) ?_
        refine lv_aload_n hx hb zd_ModuleFile_read_54 rfl (lv_at hl 0 rfl) ?_
        refine xx_get C ki_ModuleFile hK hP 8 rfl rfl 8 (by decide) kw_104 rfl rfl zd_ModuleFile_read_55 ?_
        refine lv_iconst (v := (2 : Int32)) hx hb zd_ModuleFile_read_58 (by decide) ?_
        refine lv_aload_n hx hb zd_ModuleFile_read_59 rfl (lv_at hl 0 rfl) ?_
        refine xx_get C ki_ModuleFile hK hP 8 rfl rfl 1 (by decide) kw_90 rfl rfl zd_ModuleFile_read_60 ?_
        refine lv_imul hx hb zd_ModuleFile_read_63 ?_
        refine lv_iadd hx hb zd_ModuleFile_read_64 ?_
        obtain ⟨v10, ev10, hF⟩ := xx_nm_some hF
        refine xx_topi ev10 ?_
        obtain ⟨u11, eu11, hF⟩ := xx_nm_some hF
        refine xx_put (ws1 := zz_W g u11) C ki_ModuleFile kt_ModuleFile ko_ModuleFile kn_ModuleFile hK hP hD hS 8 rfl rfl 9 (by decide) kw_105 rfl rfl rfl rfl (Nat.le_of_ble_eq_true rfl) (by rw [eu11]; rfl) zd_ModuleFile_read_65 (fun H locs hP hD hS => ?_)
        refine lv_aload_n hx hb zd_ModuleFile_read_68 rfl (lv_at hl 0 rfl) ?_
        refine lv_aload_n hx hb zd_ModuleFile_read_69 rfl (lv_at hl 0 rfl) ?_
        refine xx_get C ki_ModuleFile hK hP 8 rfl rfl 9 (by decide) kw_105 rfl rfl zd_ModuleFile_read_70 ?_
        refine lv_iconst (v := (3 : Int32)) hx hb zd_ModuleFile_read_73 (by decide) ?_
        refine lv_aload_n hx hb zd_ModuleFile_read_74 rfl (lv_at hl 0 rfl) ?_
        refine xx_get C ki_ModuleFile hK hP 8 rfl rfl 2 (by decide) kw_93 rfl rfl zd_ModuleFile_read_75 ?_
        refine lv_imul hx hb zd_ModuleFile_read_78 ?_
        refine lv_iadd hx hb zd_ModuleFile_read_79 ?_
        obtain ⟨v12, ev12, hF⟩ := xx_nm_some hF
        refine xx_topi ev12 ?_
        obtain ⟨u13, eu13, hF⟩ := xx_nm_some hF
        refine xx_put (ws1 := zz_W g u13) C ki_ModuleFile kt_ModuleFile ko_ModuleFile kn_ModuleFile hK hP hD hS 8 rfl rfl 10 (by decide) kw_106 rfl rfl rfl rfl (Nat.le_of_ble_eq_true rfl) (by rw [eu13]; rfl) zd_ModuleFile_read_80 (fun H locs hP hD hS => ?_)
        refine lv_aload_n hx hb zd_ModuleFile_read_83 rfl (lv_at hl 0 rfl) ?_
        refine xx_get C ki_ModuleFile hK hP 8 rfl rfl 10 (by decide) kw_106 rfl rfl zd_ModuleFile_read_84 ?_
        refine lv_iconst (v := (4 : Int32)) hx hb zd_ModuleFile_read_87 (by decide) ?_
        refine lv_aload_n hx hb zd_ModuleFile_read_88 rfl (lv_at hl 0 rfl) ?_
        refine xx_get C ki_ModuleFile hK hP 8 rfl rfl 3 (by decide) kw_95 rfl rfl zd_ModuleFile_read_89 ?_
        refine lv_imul hx hb zd_ModuleFile_read_92 ?_
        refine lv_iadd hx hb zd_ModuleFile_read_93 ?_
        obtain ⟨v14, ev14, hF⟩ := xx_nm_some hF
        refine xx_topi ev14 ?_
        refine lv_istore_n hx hb zd_ModuleFile_read_94 rfl hl (by decide) rfl (fun ls hl => ?_)
        refine lv_aload_n hx hb zd_ModuleFile_read_95 rfl (lv_at hl 1 rfl) ?_
        refine xx_get C ki_ModuleFile hK hP 8 rfl rfl 7 (by decide) kw_103 rfl rfl zd_ModuleFile_read_96 ?_
        obtain ⟨v16, u15, eu15, hF⟩ := xx_b2_some hF
        refine xx_callV (n := 0) (As := []) (rest := []) C (zc_Tape_length l g u13 v16 u15 eu15) ⟨kw_239, kw_506, kw_237, kw_238, kw_4⟩ ⟨by decide +kernel, by decide +kernel, by decide +kernel⟩ rfl ⟨Nat.le_of_ble_eq_true rfl, Nat.le_of_ble_eq_true rfl⟩ 6 rfl rfl hl.1 rfl (Nat.le_of_ble_eq_true rfl) hA hK hP hD hS ⟨Nat.le_refl _, Nat.le_refl _⟩ rfl rfl rfl zd_ModuleFile_read_99 (fun H locs hP hD hS => ?_)
        refine lv_iconst (v := (4 : Int32)) hx hb zd_ModuleFile_read_102 (by decide) ?_
        refine lv_iload_n hx hb zd_ModuleFile_read_103 rfl (lv_at hl 0 rfl) ?_
        refine lv_imul hx hb zd_ModuleFile_read_104 ?_
        refine lv_icmp_ne (tgt := 133) hx hb zd_ModuleFile_read_105 (by decide) (fun hc => ?_) (fun hc => ?_)
        · have hF := xx_in' hc hF
          exact zw_ModuleFile_read_b133 C hA hK  u15 _ _ _ hF (lv_sub hl [] rfl) hP hD hS
        · have hF := xx_ip hc hF
          refine lv_aload_n hx hb zd_ModuleFile_read_108 rfl (lv_at hl 1 rfl) ?_
          obtain ⟨v18, u17, eu17, hF⟩ := xx_b2_some hF
          refine xx_callV (n := 0) (As := []) (rest := []) C (zc_ModuleFile_importsHold l g u15 v18 u17 eu17) ⟨kw_531, kw_528, kw_530, ks_ModuleFile_importsHold, kw_5⟩ ⟨by decide +kernel, by decide +kernel, by decide +kernel⟩ rfl ⟨Nat.le_of_ble_eq_true rfl, Nat.le_of_ble_eq_true rfl⟩ 8 rfl rfl hl.1 rfl (Nat.le_of_ble_eq_true rfl) hA hK hP hD hS ⟨Nat.le_refl _, Nat.le_refl _⟩ rfl rfl rfl zd_ModuleFile_read_109 (fun H locs hP hD hS => ?_)
          refine lv_if_eq (tgt := 133) hx hb zd_ModuleFile_read_112 (by decide) (fun hc => ?_) (fun hc => ?_)
          · have hF := xx_ip hc hF
            exact zw_ModuleFile_read_b133 C hA hK  u17 _ _ _ hF (lv_sub hl [] rfl) hP hD hS
          · have hF := xx_in' hc hF
            refine lv_aload_n hx hb zd_ModuleFile_read_115 rfl (lv_at hl 1 rfl) ?_
            obtain ⟨v20, u19, eu19, hF⟩ := xx_b2_some hF
            refine xx_callV (n := 0) (As := []) (rest := []) C (zc_ModuleFile_exportsHold l g u17 v20 u19 eu19) ⟨kw_540, kw_537, kw_539, ks_ModuleFile_exportsHold, kw_5⟩ ⟨by decide +kernel, by decide +kernel, by decide +kernel⟩ rfl ⟨Nat.le_of_ble_eq_true rfl, Nat.le_of_ble_eq_true rfl⟩ 8 rfl rfl hl.1 rfl (Nat.le_of_ble_eq_true rfl) hA hK hP hD hS ⟨Nat.le_refl _, Nat.le_refl _⟩ rfl rfl rfl zd_ModuleFile_read_116 (fun H locs hP hD hS => ?_)
            refine lv_if_eq (tgt := 133) hx hb zd_ModuleFile_read_119 (by decide) (fun hc => ?_) (fun hc => ?_)
            · have hF := xx_ip hc hF
              exact zw_ModuleFile_read_b133 C hA hK  u19 _ _ _ hF (lv_sub hl [] rfl) hP hD hS
            · have hF := xx_in' hc hF
              refine lv_aload_n hx hb zd_ModuleFile_read_122 rfl (lv_at hl 1 rfl) ?_
              obtain ⟨v22, u21, eu21, hF⟩ := xx_b2_some hF
              refine xx_callV (n := 0) (As := []) (rest := []) C (zc_ModuleFile_placesHold l g u19 v22 u21 eu21) ⟨kw_556, kw_553, kw_555, ks_ModuleFile_placesHold, kw_5⟩ ⟨by decide +kernel, by decide +kernel, by decide +kernel⟩ rfl ⟨Nat.le_of_ble_eq_true rfl, Nat.le_of_ble_eq_true rfl⟩ 8 rfl rfl hl.1 rfl (Nat.le_of_ble_eq_true rfl) hA hK hP hD hS ⟨Nat.le_refl _, Nat.le_refl _⟩ rfl rfl rfl zd_ModuleFile_read_123 (fun H locs hP hD hS => ?_)
              refine lv_if_eq (tgt := 133) hx hb zd_ModuleFile_read_126 (by decide) (fun hc => ?_) (fun hc => ?_)
              · have hF := xx_ip hc hF
                exact zw_ModuleFile_read_b133 C hA hK  u21 _ _ _ hF (lv_sub hl [] rfl) hP hD hS
              · have hF := xx_in' hc hF
                refine lv_iconst (v := (1 : Int32)) hx hb zd_ModuleFile_read_129 (by decide) ?_
                refine lv_goto (tgt := 134) hx hb zd_ModuleFile_read_130 (by decide) ?_
                exact zw_ModuleFile_read_b134 C hA hK  u21 (1 : Int32) _ _ _ hF (lv_sub hl [] rfl) hP hD hS
      · have hF := xx_ip hc hF
        refine lv_iconst (v := (0 : Int32)) hx hb zd_ModuleFile_read_38 (by decide) ?_
        exact xx_zret C hF hK hP hD hS zd_ModuleFile_read_39
    · have hF := xx_in' hc hF
      exact zw_ModuleFile_read_b25 C hA hK  u3 _ _ _ hF (lv_sub hl [] rfl) hP hD hS
set_option maxRecDepth 100000 in
theorem kw_741 : Cond.code ky_Machine_run kb_Machine_run 5 none ∈ xx_tb := xx_in (List.mem_append_right _ (List.mem_of_getElem? (i := 741) (by rfl))) (by decide +kernel)
theorem kw_738 : Cond.methodLink "ModuleLoader" 322 ky_Machine_run ∈ xx_tb := xx_in (List.mem_append_right _ (List.mem_of_getElem? (i := 738) (by decide +kernel))) (by decide +kernel)
theorem kw_739 : Cond.instanceMethod ky_Machine_run ∈ xx_tb := xx_in (List.mem_append_right _ (List.mem_of_getElem? (i := 739) (by decide +kernel))) (by decide +kernel)
theorem kw_740 : Cond.selects "ModuleLoader$Machine" ky_Machine_run ky_Machine_run ∈ xx_tb := xx_in (List.mem_append_right _ (List.mem_of_getElem? (i := 740) (by decide +kernel))) (by decide +kernel)
theorem kw_51 : Cond.fieldLink "ModuleLoader" 325 "ModuleLoader$Machine" "trap" "I" ∈ xx_tb := xx_in (List.mem_append_right _ (List.mem_of_getElem? (i := 51) (by decide +kernel))) (by decide +kernel)
theorem kw_53 : Cond.fieldLink "ModuleLoader" 326 "ModuleLoader$Machine" "steps" "I" ∈ xx_tb := xx_in (List.mem_append_right _ (List.mem_of_getElem? (i := 53) (by decide +kernel))) (by decide +kernel)
set_option maxRecDepth 100000 in
theorem kw_829 : Cond.code ky_Machine_hasReturned kb_Machine_hasReturned 1 (some .boolean) ∈ xx_tb := xx_in (List.mem_append_right _ (List.mem_of_getElem? (i := 829) (by rfl))) (by decide +kernel)
theorem kw_826 : Cond.methodLink "ModuleLoader" 327 ky_Machine_hasReturned ∈ xx_tb := xx_in (List.mem_append_right _ (List.mem_of_getElem? (i := 826) (by decide +kernel))) (by decide +kernel)
theorem kw_827 : Cond.instanceMethod ky_Machine_hasReturned ∈ xx_tb := xx_in (List.mem_append_right _ (List.mem_of_getElem? (i := 827) (by decide +kernel))) (by decide +kernel)
theorem kw_828 : Cond.selects "ModuleLoader$Machine" ky_Machine_hasReturned ky_Machine_hasReturned ∈ xx_tb := xx_in (List.mem_append_right _ (List.mem_of_getElem? (i := 828) (by decide +kernel))) (by decide +kernel)
theorem zd_Loader_execute_0 : decode kb_Loader_execute 0 = .ok (.aload_n 0, 1) := by decide +kernel
theorem zd_Loader_execute_1 : decode kb_Loader_execute 1 = .ok (.getfield 21, 3) := by decide +kernel
theorem zd_Loader_execute_4 : decode kb_Loader_execute 4 = .ok (.iload_n 1, 1) := by decide +kernel
theorem zd_Loader_execute_5 : decode kb_Loader_execute 5 = .ok (.iload_n 2, 1) := by decide +kernel
theorem zd_Loader_execute_6 : decode kb_Loader_execute 6 = .ok (.iload_n 3, 1) := by decide +kernel
theorem zd_Loader_execute_7 : decode kb_Loader_execute 7 = .ok (.iload 4, 2) := by decide +kernel
theorem zd_Loader_execute_9 : decode kb_Loader_execute 9 = .ok (.invokevirtual 322, 3) := by decide +kernel
theorem zd_Loader_execute_12 : decode kb_Loader_execute 12 = .ok (.aload_n 0, 1) := by decide +kernel
theorem zd_Loader_execute_13 : decode kb_Loader_execute 13 = .ok (.getfield 58, 3) := by decide +kernel
theorem zd_Loader_execute_16 : decode kb_Loader_execute 16 = .ok (.aload_n 0, 1) := by decide +kernel
theorem zd_Loader_execute_17 : decode kb_Loader_execute 17 = .ok (.getfield 21, 3) := by decide +kernel
theorem zd_Loader_execute_20 : decode kb_Loader_execute 20 = .ok (.getfield 325, 3) := by decide +kernel
theorem zd_Loader_execute_23 : decode kb_Loader_execute 23 = .ok (.putfield 152, 3) := by decide +kernel
theorem zd_Loader_execute_26 : decode kb_Loader_execute 26 = .ok (.aload_n 0, 1) := by decide +kernel
theorem zd_Loader_execute_27 : decode kb_Loader_execute 27 = .ok (.getfield 58, 3) := by decide +kernel
theorem zd_Loader_execute_30 : decode kb_Loader_execute 30 = .ok (.aload_n 0, 1) := by decide +kernel
theorem zd_Loader_execute_31 : decode kb_Loader_execute 31 = .ok (.getfield 21, 3) := by decide +kernel
theorem zd_Loader_execute_34 : decode kb_Loader_execute 34 = .ok (.getfield 326, 3) := by decide +kernel
theorem zd_Loader_execute_37 : decode kb_Loader_execute 37 = .ok (.putfield 155, 3) := by decide +kernel
theorem zd_Loader_execute_40 : decode kb_Loader_execute 40 = .ok (.aload_n 0, 1) := by decide +kernel
theorem zd_Loader_execute_41 : decode kb_Loader_execute 41 = .ok (.getfield 21, 3) := by decide +kernel
theorem zd_Loader_execute_44 : decode kb_Loader_execute 44 = .ok (.getfield 325, 3) := by decide +kernel
theorem zd_Loader_execute_47 : decode kb_Loader_execute 47 = .ok (.ifCond .eq (16), 3) := by decide +kernel
theorem zd_Loader_execute_50 : decode kb_Loader_execute 50 = .ok (.aload_n 0, 1) := by decide +kernel
theorem zd_Loader_execute_51 : decode kb_Loader_execute 51 = .ok (.getfield 58, 3) := by decide +kernel
theorem zd_Loader_execute_54 : decode kb_Loader_execute 54 = .ok (.bipush (8), 2) := by decide +kernel
theorem zd_Loader_execute_56 : decode kb_Loader_execute 56 = .ok (.iconst (-1), 1) := by decide +kernel
theorem zd_Loader_execute_57 : decode kb_Loader_execute 57 = .ok (.invokevirtual 167, 3) := by decide +kernel
theorem zd_Loader_execute_60 : decode kb_Loader_execute 60 = .ok (.goto (42), 3) := by decide +kernel
theorem zd_Loader_execute_63 : decode kb_Loader_execute 63 = .ok (.aload_n 0, 1) := by decide +kernel
theorem zd_Loader_execute_64 : decode kb_Loader_execute 64 = .ok (.getfield 21, 3) := by decide +kernel
theorem zd_Loader_execute_67 : decode kb_Loader_execute 67 = .ok (.invokevirtual 327, 3) := by decide +kernel
theorem zd_Loader_execute_70 : decode kb_Loader_execute 70 = .ok (.ifCond .ne (16), 3) := by decide +kernel
theorem zd_Loader_execute_73 : decode kb_Loader_execute 73 = .ok (.aload_n 0, 1) := by decide +kernel
theorem zd_Loader_execute_74 : decode kb_Loader_execute 74 = .ok (.getfield 58, 3) := by decide +kernel
theorem zd_Loader_execute_77 : decode kb_Loader_execute 77 = .ok (.bipush (9), 2) := by decide +kernel
theorem zd_Loader_execute_79 : decode kb_Loader_execute 79 = .ok (.iconst (-1), 1) := by decide +kernel
theorem zd_Loader_execute_80 : decode kb_Loader_execute 80 = .ok (.invokevirtual 167, 3) := by decide +kernel
theorem zd_Loader_execute_83 : decode kb_Loader_execute 83 = .ok (.goto (19), 3) := by decide +kernel
theorem zd_Loader_execute_86 : decode kb_Loader_execute 86 = .ok (.aload_n 0, 1) := by decide +kernel
theorem zd_Loader_execute_87 : decode kb_Loader_execute 87 = .ok (.getfield 58, 3) := by decide +kernel
theorem zd_Loader_execute_90 : decode kb_Loader_execute 90 = .ok (.aload_n 0, 1) := by decide +kernel
theorem zd_Loader_execute_91 : decode kb_Loader_execute 91 = .ok (.getfield 21, 3) := by decide +kernel
theorem zd_Loader_execute_94 : decode kb_Loader_execute 94 = .ok (.bipush (10), 2) := by decide +kernel
theorem zd_Loader_execute_96 : decode kb_Loader_execute 96 = .ok (.invokevirtual 184, 3) := by decide +kernel
theorem zd_Loader_execute_99 : decode kb_Loader_execute 99 = .ok (.putfield 158, 3) := by decide +kernel
theorem zd_Loader_execute_102 : decode kb_Loader_execute 102 = .ok (.return_, 1) := by decide +kernel
def zf_Loader_execute_b102 (u : zz_S) : Option (zz_S) := some u
def zf_Loader_execute (u : zz_S) (x1 : Int32) (x2 : Int32) (x3 : Int32) (x4 : Int32) : Option (zz_S) := (zf_Machine_run u x1 x2 x3 x4).bind fun u1 => xx_nm (u1.1 1) fun v2 => xx_nm (va_up u1.1 19 v2, u1.2) fun u3 => xx_nm (u3.1 2) fun v4 => xx_nm (va_up u3.1 20 v4, u3.2) fun u5 => if (u5.1 1) = 0 then (xx_b2 (zf_Machine_hasReturned u5) fun v7 u6 => if v7 = 0 then ((zf_Report_blame u6 (9 : Int32) (-1 : Int32)).bind fun u11 => zf_Loader_execute_b102 u11) else (xx_b2 (zf_Machine_registerAfterRun u6 (10 : Int32)) fun v9 u8 => xx_nm (va_up u8.1 21 v9, u8.2) fun u10 => zf_Loader_execute_b102 u10)) else ((zf_Report_blame u5 (8 : Int32) (-1 : Int32)).bind fun u12 => zf_Loader_execute_b102 u12)
set_option maxHeartbeats 4000000 in
set_option maxRecDepth 100000 in
theorem zw_Loader_execute_b102 {p : Program} {l : Launch} {e : Env} {s : State} {m : MethodId} {args : Array Value} {below : List Frame} {meth : Method} {c : Code} {A : Nat → Prop} {g : xx_G} {u9 : zz_S} (C : xx_C p s m args meth c kb_Loader_execute 5 kr_Loader none) (hA : ∀ q, s.heap.size ≤ q → A q) (hK : va_K g.1 xx_cls (zz_T g) s) : ∀ (u : zz_S) (H : Heap) (locs : List Loc) (ls : Array Slot), zf_Loader_execute_b102 u = some u9 → lv_has ls 5 [] → va_P g.1 xx_cls (zz_W g u) H → va_D A (zz_W g u) → va_S A s.heap H locs → W p l e (xx_rm 5 116) s m args below meth c H locs 0 0 (MQ below (xx_Q g.1 (zz_T g) (zz_W g) none u9 A) args s 0 0 A) (F0 m 102 ls []) := by
  have hx := C.1
  have hb := C.2.1
  have hown := C.2.2.2.1
  have hts := C.2.2.2.2.1
  intro u H locs ls hF hl hP hD hS
  unfold zf_Loader_execute_b102 at hF
  exact xx_vret C hF hK hP hD hS zd_Loader_execute_102
set_option maxHeartbeats 4000000 in
set_option maxRecDepth 100000 in
theorem zc_Loader_execute (l : Launch) (g : xx_G) (u : zz_S) (x1 : Int32) (x2 : Int32) (x3 : Int32) (x4 : Int32) (u9 : zz_S) (hF : zf_Loader_execute u x1 x2 x3 x4 = some u9) : xx_M l g.1 (zz_T g) (zz_W g) ky_Loader_execute kb_Loader_execute 5 none (xx_rm 5 116) [.ref (g.2.1 0), .int x1, .int x2, .int x3, .int x4] u none u9 := by
  refine xx_body (by decide) (Nat.le_of_ble_eq_true rfl) ?_
  intro p e s m args below meth c A ls C hin hK hl hA hP hD hS
  have hx := C.1
  have hb := C.2.1
  have hown := C.2.2.2.1
  have hts := C.2.2.2.2.1
  have hl : lv_has ls 5 [(0, .ref (g.2.1 0)), (1, .int x1), (2, .int x2), (3, .int x3), (4, .int x4)] := hl
  unfold zf_Loader_execute at hF
  refine lv_aload_n hx hb zd_Loader_execute_0 rfl (lv_at hl 0 rfl) ?_
  refine xx_get C ki_Loader hK hP 0 rfl rfl 1 (by decide) kw_188 rfl rfl zd_Loader_execute_1 ?_
  refine lv_iload_n hx hb zd_Loader_execute_4 rfl (lv_at hl 1 rfl) ?_
  refine lv_iload_n hx hb zd_Loader_execute_5 rfl (lv_at hl 2 rfl) ?_
  refine lv_iload_n hx hb zd_Loader_execute_6 rfl (lv_at hl 3 rfl) ?_
  refine lv_iload hx hb zd_Loader_execute_7 (lv_at hl 4 rfl) ?_
  obtain ⟨u1, eu1, hF⟩ := xx_ob hF
  refine xx_callV (n := 4) (As := [.int x1, .int x2, .int x3, .int x4]) (rest := []) C (zc_Machine_run l g u x1 x2 x3 x4 u1 eu1) ⟨kw_741, kw_738, kw_739, kw_740, kw_3⟩ ⟨by decide +kernel, by decide +kernel, by decide +kernel⟩ rfl ⟨Nat.le_of_ble_eq_true rfl, Nat.le_of_ble_eq_true rfl⟩ 4 rfl rfl hl.1 rfl (Nat.le_of_ble_eq_true rfl) hA hK hP hD hS ⟨Nat.le_refl _, Nat.le_refl _⟩ rfl rfl rfl zd_Loader_execute_9 (fun H locs hP hD hS => ?_)
  refine lv_aload_n hx hb zd_Loader_execute_12 rfl (lv_at hl 0 rfl) ?_
  refine xx_get C ki_Loader hK hP 0 rfl rfl 6 (by decide) kw_193 rfl rfl zd_Loader_execute_13 ?_
  refine lv_aload_n hx hb zd_Loader_execute_16 rfl (lv_at hl 0 rfl) ?_
  refine xx_get C ki_Loader hK hP 0 rfl rfl 1 (by decide) kw_188 rfl rfl zd_Loader_execute_17 ?_
  refine xx_get C ki_Machine hK hP 4 rfl rfl 0 (by decide) kw_51 rfl rfl zd_Loader_execute_20 ?_
  obtain ⟨v2, ev2, hF⟩ := xx_nm_some hF
  refine xx_topi ev2 ?_
  obtain ⟨u3, eu3, hF⟩ := xx_nm_some hF
  refine xx_put (ws1 := zz_W g u3) C ki_Report kt_Report ko_Report kn_Report hK hP hD hS 13 rfl rfl 2 (by decide) kw_171 rfl rfl rfl rfl (Nat.le_of_ble_eq_true rfl) (by rw [eu3]; rfl) zd_Loader_execute_23 (fun H locs hP hD hS => ?_)
  refine lv_aload_n hx hb zd_Loader_execute_26 rfl (lv_at hl 0 rfl) ?_
  refine xx_get C ki_Loader hK hP 0 rfl rfl 6 (by decide) kw_193 rfl rfl zd_Loader_execute_27 ?_
  refine lv_aload_n hx hb zd_Loader_execute_30 rfl (lv_at hl 0 rfl) ?_
  refine xx_get C ki_Loader hK hP 0 rfl rfl 1 (by decide) kw_188 rfl rfl zd_Loader_execute_31 ?_
  refine xx_get C ki_Machine hK hP 4 rfl rfl 1 (by decide) kw_53 rfl rfl zd_Loader_execute_34 ?_
  obtain ⟨v4, ev4, hF⟩ := xx_nm_some hF
  refine xx_topi ev4 ?_
  obtain ⟨u5, eu5, hF⟩ := xx_nm_some hF
  refine xx_put (ws1 := zz_W g u5) C ki_Report kt_Report ko_Report kn_Report hK hP hD hS 13 rfl rfl 3 (by decide) kw_173 rfl rfl rfl rfl (Nat.le_of_ble_eq_true rfl) (by rw [eu5]; rfl) zd_Loader_execute_37 (fun H locs hP hD hS => ?_)
  refine lv_aload_n hx hb zd_Loader_execute_40 rfl (lv_at hl 0 rfl) ?_
  refine xx_get C ki_Loader hK hP 0 rfl rfl 1 (by decide) kw_188 rfl rfl zd_Loader_execute_41 ?_
  refine xx_get C ki_Machine hK hP 4 rfl rfl 0 (by decide) kw_51 rfl rfl zd_Loader_execute_44 ?_
  refine lv_if_eq (tgt := 63) hx hb zd_Loader_execute_47 (by decide) (fun hc => ?_) (fun hc => ?_)
  · have hF := xx_ip hc hF
    refine lv_aload_n hx hb zd_Loader_execute_63 rfl (lv_at hl 0 rfl) ?_
    refine xx_get C ki_Loader hK hP 0 rfl rfl 1 (by decide) kw_188 rfl rfl zd_Loader_execute_64 ?_
    obtain ⟨v7, u6, eu6, hF⟩ := xx_b2_some hF
    refine xx_callV (n := 0) (As := []) (rest := []) C (zc_Machine_hasReturned l g u5 v7 u6 eu6) ⟨kw_829, kw_826, kw_827, kw_828, kw_3⟩ ⟨by decide +kernel, by decide +kernel, by decide +kernel⟩ rfl ⟨Nat.le_of_ble_eq_true rfl, Nat.le_of_ble_eq_true rfl⟩ 4 rfl rfl hl.1 rfl (Nat.le_of_ble_eq_true rfl) hA hK hP hD hS ⟨Nat.le_refl _, Nat.le_refl _⟩ rfl rfl rfl zd_Loader_execute_67 (fun H locs hP hD hS => ?_)
    refine lv_if_ne (tgt := 86) hx hb zd_Loader_execute_70 (by decide) (fun hc => ?_) (fun hc => ?_)
    · have hF := xx_in' hc hF
      refine lv_aload_n hx hb zd_Loader_execute_86 rfl (lv_at hl 0 rfl) ?_
      refine xx_get C ki_Loader hK hP 0 rfl rfl 6 (by decide) kw_193 rfl rfl zd_Loader_execute_87 ?_
      refine lv_aload_n hx hb zd_Loader_execute_90 rfl (lv_at hl 0 rfl) ?_
      refine xx_get C ki_Loader hK hP 0 rfl rfl 1 (by decide) kw_188 rfl rfl zd_Loader_execute_91 ?_
      refine lv_bipush (v := (10 : Int32)) hx hb zd_Loader_execute_94 (by decide) ?_
      obtain ⟨v9, u8, eu8, hF⟩ := xx_b2_some hF
      refine xx_callV (n := 1) (As := [.int (10 : Int32)]) (rest := [.ref (g.2.1 13)]) C (zc_Machine_registerAfterRun l g u6 (10 : Int32) v9 u8 eu8) ⟨kw_263, kw_260, kw_261, kw_262, kw_3⟩ ⟨by decide +kernel, by decide +kernel, by decide +kernel⟩ rfl ⟨Nat.le_of_ble_eq_true rfl, Nat.le_of_ble_eq_true rfl⟩ 4 rfl rfl hl.1 rfl (Nat.le_of_ble_eq_true rfl) hA hK hP hD hS ⟨Nat.le_refl _, Nat.le_refl _⟩ rfl rfl rfl zd_Loader_execute_96 (fun H locs hP hD hS => ?_)
      obtain ⟨u10, eu10, hF⟩ := xx_nm_some hF
      refine xx_put (ws1 := zz_W g u10) C ki_Report kt_Report ko_Report kn_Report hK hP hD hS 13 rfl rfl 4 (by decide) kw_175 rfl rfl rfl rfl (Nat.le_of_ble_eq_true rfl) (by rw [eu10]; rfl) zd_Loader_execute_99 (fun H locs hP hD hS => ?_)
      exact zw_Loader_execute_b102 C hA hK  u10 _ _ _ hF (lv_sub hl [] rfl) hP hD hS
    · have hF := xx_ip hc hF
      refine lv_aload_n hx hb zd_Loader_execute_73 rfl (lv_at hl 0 rfl) ?_
      refine xx_get C ki_Loader hK hP 0 rfl rfl 6 (by decide) kw_193 rfl rfl zd_Loader_execute_74 ?_
      refine lv_bipush (v := (9 : Int32)) hx hb zd_Loader_execute_77 (by decide) ?_
      refine lv_iconst (v := (-1 : Int32)) hx hb zd_Loader_execute_79 (by decide) ?_
      obtain ⟨u11, eu11, hF⟩ := xx_ob hF
      refine xx_callV (n := 2) (As := [.int (9 : Int32), .int (-1 : Int32)]) (rest := []) C (zc_Report_blame l g u6 (9 : Int32) (-1 : Int32) u11 eu11) ⟨kw_572, kw_569, kw_570, kw_571, kw_8⟩ ⟨by decide +kernel, by decide +kernel, by decide +kernel⟩ rfl ⟨Nat.le_of_ble_eq_true rfl, Nat.le_of_ble_eq_true rfl⟩ 13 rfl rfl hl.1 rfl (Nat.le_of_ble_eq_true rfl) hA hK hP hD hS ⟨Nat.le_refl _, Nat.le_refl _⟩ rfl rfl rfl zd_Loader_execute_80 (fun H locs hP hD hS => ?_)
      refine lv_goto (tgt := 102) hx hb zd_Loader_execute_83 (by decide) ?_
      exact zw_Loader_execute_b102 C hA hK  u11 _ _ _ hF (lv_sub hl [] rfl) hP hD hS
  · have hF := xx_in' hc hF
    refine lv_aload_n hx hb zd_Loader_execute_50 rfl (lv_at hl 0 rfl) ?_
    refine xx_get C ki_Loader hK hP 0 rfl rfl 6 (by decide) kw_193 rfl rfl zd_Loader_execute_51 ?_
    refine lv_bipush (v := (8 : Int32)) hx hb zd_Loader_execute_54 (by decide) ?_
    refine lv_iconst (v := (-1 : Int32)) hx hb zd_Loader_execute_56 (by decide) ?_
    obtain ⟨u12, eu12, hF⟩ := xx_ob hF
    refine xx_callV (n := 2) (As := [.int (8 : Int32), .int (-1 : Int32)]) (rest := []) C (zc_Report_blame l g u5 (8 : Int32) (-1 : Int32) u12 eu12) ⟨kw_572, kw_569, kw_570, kw_571, kw_8⟩ ⟨by decide +kernel, by decide +kernel, by decide +kernel⟩ rfl ⟨Nat.le_of_ble_eq_true rfl, Nat.le_of_ble_eq_true rfl⟩ 13 rfl rfl hl.1 rfl (Nat.le_of_ble_eq_true rfl) hA hK hP hD hS ⟨Nat.le_refl _, Nat.le_refl _⟩ rfl rfl rfl zd_Loader_execute_57 (fun H locs hP hD hS => ?_)
    refine lv_goto (tgt := 102) hx hb zd_Loader_execute_60 (by decide) ?_
    exact zw_Loader_execute_b102 C hA hK  u12 _ _ _ hF (lv_sub hl [] rfl) hP hD hS
