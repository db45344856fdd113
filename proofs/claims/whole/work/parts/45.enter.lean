theorem kw_666 : Cond.classLink "ModuleLoader" 130 "ModuleLoader$LoadedModule" ∈ xx_tb := xx_in (List.mem_append_right _ (List.mem_of_getElem? (i := 666) (by decide +kernel))) (by decide +kernel)
theorem kw_667 : Cond.instantiable "ModuleLoader$LoadedModule" 10 ∈ xx_tb := xx_in (List.mem_append_right _ (List.mem_of_getElem? (i := 667) (by decide +kernel))) (by decide +kernel)
set_option maxRecDepth 100000 in
theorem kw_670 : Cond.code ky_LoadedModule_init kb_LoadedModule_init 4 none ∈ xx_tb := xx_in (List.mem_append_right _ (List.mem_of_getElem? (i := 670) (by rfl))) (by decide +kernel)
theorem kw_668 : Cond.methodLink "ModuleLoader" 288 ky_LoadedModule_init ∈ xx_tb := xx_in (List.mem_append_right _ (List.mem_of_getElem? (i := 668) (by decide +kernel))) (by decide +kernel)
theorem kw_669 : Cond.instanceMethod ky_LoadedModule_init ∈ xx_tb := xx_in (List.mem_append_right _ (List.mem_of_getElem? (i := 669) (by decide +kernel))) (by decide +kernel)
set_option maxRecDepth 100000 in
theorem kw_728 : Cond.code ky_ModuleTable_insert kb_ModuleTable_insert 3 none ∈ xx_tb := xx_in (List.mem_append_right _ (List.mem_of_getElem? (i := 728) (by rfl))) (by decide +kernel)
theorem kw_725 : Cond.methodLink "ModuleLoader" 303 ky_ModuleTable_insert ∈ xx_tb := xx_in (List.mem_append_right _ (List.mem_of_getElem? (i := 725) (by decide +kernel))) (by decide +kernel)
theorem kw_726 : Cond.instanceMethod ky_ModuleTable_insert ∈ xx_tb := xx_in (List.mem_append_right _ (List.mem_of_getElem? (i := 726) (by decide +kernel))) (by decide +kernel)
theorem kw_727 : Cond.selects "ModuleLoader$ModuleTable" ky_ModuleTable_insert ky_ModuleTable_insert ∈ xx_tb := xx_in (List.mem_append_right _ (List.mem_of_getElem? (i := 727) (by decide +kernel))) (by decide +kernel)
theorem kw_456 : Cond.classLink "ModuleLoader" 99 "ModuleLoader$Symbol" ∈ xx_tb := xx_in (List.mem_append_right _ (List.mem_of_getElem? (i := 456) (by decide +kernel))) (by decide +kernel)
theorem kw_457 : Cond.instantiable "ModuleLoader$Symbol" 4 ∈ xx_tb := xx_in (List.mem_append_right _ (List.mem_of_getElem? (i := 457) (by decide +kernel))) (by decide +kernel)
theorem kw_16 : Cond.initialized "ModuleLoader$Symbol" ∈ xx_tb := xx_in (List.mem_append_right _ (List.mem_of_getElem? (i := 16) (by decide +kernel))) (by decide +kernel)
set_option maxRecDepth 100000 in
theorem kw_723 : Cond.code ky_ModuleFile_exportCheck kb_ModuleFile_exportCheck 2 (some .int) ∈ xx_tb := xx_in (List.mem_append_right _ (List.mem_of_getElem? (i := 723) (by rfl))) (by decide +kernel)
theorem kw_720 : Cond.methodLink "ModuleLoader" 297 ky_ModuleFile_exportCheck ∈ xx_tb := xx_in (List.mem_append_right _ (List.mem_of_getElem? (i := 720) (by decide +kernel))) (by decide +kernel)
theorem kw_721 : Cond.instanceMethod ky_ModuleFile_exportCheck ∈ xx_tb := xx_in (List.mem_append_right _ (List.mem_of_getElem? (i := 721) (by decide +kernel))) (by decide +kernel)
theorem kw_722 : Cond.selects "ModuleLoader$ModuleFile" ky_ModuleFile_exportCheck ky_ModuleFile_exportCheck ∈ xx_tb := xx_in (List.mem_append_right _ (List.mem_of_getElem? (i := 722) (by decide +kernel))) (by decide +kernel)
theorem kw_724 : Cond.methodLink "ModuleLoader" 300 ky_ModuleFile_exportOffset ∈ xx_tb := xx_in (List.mem_append_right _ (List.mem_of_getElem? (i := 724) (by decide +kernel))) (by decide +kernel)
set_option maxRecDepth 100000 in
theorem kw_460 : Cond.code ky_Symbol_init kb_Symbol_init 5 none ∈ xx_tb := xx_in (List.mem_append_right _ (List.mem_of_getElem? (i := 460) (by rfl))) (by decide +kernel)
theorem kw_458 : Cond.methodLink "ModuleLoader" 101 ky_Symbol_init ∈ xx_tb := xx_in (List.mem_append_right _ (List.mem_of_getElem? (i := 458) (by decide +kernel))) (by decide +kernel)
theorem kw_459 : Cond.instanceMethod ky_Symbol_init ∈ xx_tb := xx_in (List.mem_append_right _ (List.mem_of_getElem? (i := 459) (by decide +kernel))) (by decide +kernel)
set_option maxRecDepth 100000 in
theorem kw_483 : Cond.code ky_SymbolTable_add kb_SymbolTable_add 2 none ∈ xx_tb := xx_in (List.mem_append_right _ (List.mem_of_getElem? (i := 483) (by rfl))) (by decide +kernel)
theorem kw_480 : Cond.methodLink "ModuleLoader" 104 ky_SymbolTable_add ∈ xx_tb := xx_in (List.mem_append_right _ (List.mem_of_getElem? (i := 480) (by decide +kernel))) (by decide +kernel)
theorem kw_481 : Cond.instanceMethod ky_SymbolTable_add ∈ xx_tb := xx_in (List.mem_append_right _ (List.mem_of_getElem? (i := 481) (by decide +kernel))) (by decide +kernel)
theorem kw_482 : Cond.selects "ModuleLoader$SymbolTable" ky_SymbolTable_add ky_SymbolTable_add ∈ xx_tb := xx_in (List.mem_append_right _ (List.mem_of_getElem? (i := 482) (by decide +kernel))) (by decide +kernel)
set_option maxRecDepth 100000 in
theorem kw_718 : Cond.code ky_LoadedModule_need kb_LoadedModule_need 2 none ∈ xx_tb := xx_in (List.mem_append_right _ (List.mem_of_getElem? (i := 718) (by rfl))) (by decide +kernel)
theorem kw_715 : Cond.methodLink "ModuleLoader" 291 ky_LoadedModule_need ∈ xx_tb := xx_in (List.mem_append_right _ (List.mem_of_getElem? (i := 715) (by decide +kernel))) (by decide +kernel)
theorem kw_716 : Cond.instanceMethod ky_LoadedModule_need ∈ xx_tb := xx_in (List.mem_append_right _ (List.mem_of_getElem? (i := 716) (by decide +kernel))) (by decide +kernel)
theorem kw_717 : Cond.selects "ModuleLoader$LoadedModule" ky_LoadedModule_need ky_LoadedModule_need ∈ xx_tb := xx_in (List.mem_append_right _ (List.mem_of_getElem? (i := 717) (by decide +kernel))) (by decide +kernel)
theorem zd_Loader_enter_0 : decode kb_Loader_enter 0 = .ok (.new 130, 3) := by decide +kernel
theorem zd_Loader_enter_3 : decode kb_Loader_enter 3 = .ok (.dup, 1) := by decide +kernel
theorem zd_Loader_enter_4 : decode kb_Loader_enter 4 = .ok (.iload_n 1, 1) := by decide +kernel
theorem zd_Loader_enter_5 : decode kb_Loader_enter 5 = .ok (.iload_n 2, 1) := by decide +kernel
theorem zd_Loader_enter_6 : decode kb_Loader_enter 6 = .ok (.aload_n 0, 1) := by decide +kernel
theorem zd_Loader_enter_7 : decode kb_Loader_enter 7 = .ok (.getfield 37, 3) := by decide +kernel
theorem zd_Loader_enter_10 : decode kb_Loader_enter 10 = .ok (.invokespecial 288, 3) := by decide +kernel
theorem zd_Loader_enter_13 : decode kb_Loader_enter 13 = .ok (.astore_n 3, 1) := by decide +kernel
theorem zd_Loader_enter_14 : decode kb_Loader_enter 14 = .ok (.iconst 0, 1) := by decide +kernel
theorem zd_Loader_enter_15 : decode kb_Loader_enter 15 = .ok (.istore 4, 2) := by decide +kernel
theorem zd_Loader_enter_17 : decode kb_Loader_enter 17 = .ok (.iload 4, 2) := by decide +kernel
theorem zd_Loader_enter_19 : decode kb_Loader_enter 19 = .ok (.aload_n 0, 1) := by decide +kernel
theorem zd_Loader_enter_20 : decode kb_Loader_enter 20 = .ok (.getfield 37, 3) := by decide +kernel
theorem zd_Loader_enter_23 : decode kb_Loader_enter 23 = .ok (.getfield 244, 3) := by decide +kernel
theorem zd_Loader_enter_26 : decode kb_Loader_enter 26 = .ok (.if_icmp .ge (45), 3) := by decide +kernel
theorem zd_Loader_enter_29 : decode kb_Loader_enter 29 = .ok (.aload_n 0, 1) := by decide +kernel
theorem zd_Loader_enter_30 : decode kb_Loader_enter 30 = .ok (.getfield 44, 3) := by decide +kernel
theorem zd_Loader_enter_33 : decode kb_Loader_enter 33 = .ok (.aload_n 0, 1) := by decide +kernel
theorem zd_Loader_enter_34 : decode kb_Loader_enter 34 = .ok (.getfield 37, 3) := by decide +kernel
theorem zd_Loader_enter_37 : decode kb_Loader_enter 37 = .ok (.iload 4, 2) := by decide +kernel
theorem zd_Loader_enter_39 : decode kb_Loader_enter 39 = .ok (.invokevirtual 247, 3) := by decide +kernel
theorem zd_Loader_enter_42 : decode kb_Loader_enter 42 = .ok (.invokevirtual 91, 3) := by decide +kernel
theorem zd_Loader_enter_45 : decode kb_Loader_enter 45 = .ok (.astore 5, 2) := by decide +kernel
theorem zd_Loader_enter_47 : decode kb_Loader_enter 47 = .ok (.aload_n 3, 1) := by decide +kernel
theorem zd_Loader_enter_48 : decode kb_Loader_enter 48 = .ok (.aload 5, 2) := by decide +kernel
theorem zd_Loader_enter_50 : decode kb_Loader_enter 50 = .ok (.ifnonnull (7), 3) := by decide +kernel
theorem zd_Loader_enter_53 : decode kb_Loader_enter 53 = .ok (.aconst_null, 1) := by decide +kernel
theorem zd_Loader_enter_54 : decode kb_Loader_enter 54 = .ok (.goto (8), 3) := by decide +kernel
theorem zd_Loader_enter_57 : decode kb_Loader_enter 57 = .ok (.aload 5, 2) := by decide +kernel
theorem zd_Loader_enter_59 : decode kb_Loader_enter 59 = .ok (.getfield 190, 3) := by decide +kernel
theorem zd_Loader_enter_62 : decode kb_Loader_enter 62 = .ok (.invokevirtual 291, 3) := by decide +kernel
theorem zd_Loader_enter_65 : decode kb_Loader_enter 65 = .ok (.iinc 4 (1), 3) := by decide +kernel
theorem zd_Loader_enter_68 : decode kb_Loader_enter 68 = .ok (.goto (-51), 3) := by decide +kernel
theorem zd_Loader_enter_71 : decode kb_Loader_enter 71 = .ok (.aload_n 0, 1) := by decide +kernel
theorem zd_Loader_enter_72 : decode kb_Loader_enter 72 = .ok (.getfield 10, 3) := by decide +kernel
theorem zd_Loader_enter_75 : decode kb_Loader_enter 75 = .ok (.iload_n 2, 1) := by decide +kernel
theorem zd_Loader_enter_76 : decode kb_Loader_enter 76 = .ok (.aload_n 3, 1) := by decide +kernel
theorem zd_Loader_enter_77 : decode kb_Loader_enter 77 = .ok (.getfield 294, 3) := by decide +kernel
theorem zd_Loader_enter_80 : decode kb_Loader_enter 80 = .ok (.iconst 1, 1) := by decide +kernel
theorem zd_Loader_enter_81 : decode kb_Loader_enter 81 = .ok (.invokevirtual 80, 3) := by decide +kernel
theorem zd_Loader_enter_84 : decode kb_Loader_enter 84 = .ok (.iconst 0, 1) := by decide +kernel
theorem zd_Loader_enter_85 : decode kb_Loader_enter 85 = .ok (.istore 4, 2) := by decide +kernel
theorem zd_Loader_enter_87 : decode kb_Loader_enter 87 = .ok (.iload 4, 2) := by decide +kernel
theorem zd_Loader_enter_89 : decode kb_Loader_enter 89 = .ok (.aload_n 0, 1) := by decide +kernel
theorem zd_Loader_enter_90 : decode kb_Loader_enter 90 = .ok (.getfield 37, 3) := by decide +kernel
theorem zd_Loader_enter_93 : decode kb_Loader_enter 93 = .ok (.getfield 253, 3) := by decide +kernel
theorem zd_Loader_enter_96 : decode kb_Loader_enter 96 = .ok (.if_icmp .ge (53), 3) := by decide +kernel
theorem zd_Loader_enter_99 : decode kb_Loader_enter 99 = .ok (.aload_n 0, 1) := by decide +kernel
theorem zd_Loader_enter_100 : decode kb_Loader_enter 100 = .ok (.getfield 44, 3) := by decide +kernel
theorem zd_Loader_enter_103 : decode kb_Loader_enter 103 = .ok (.new 99, 3) := by decide +kernel
theorem zd_Loader_enter_106 : decode kb_Loader_enter 106 = .ok (.dup, 1) := by decide +kernel
theorem zd_Loader_enter_107 : decode kb_Loader_enter 107 = .ok (.aload_n 0, 1) := by decide +kernel
theorem zd_Loader_enter_108 : decode kb_Loader_enter 108 = .ok (.getfield 37, 3) := by decide +kernel
theorem zd_Loader_enter_111 : decode kb_Loader_enter 111 = .ok (.iload 4, 2) := by decide +kernel
theorem zd_Loader_enter_113 : decode kb_Loader_enter 113 = .ok (.invokevirtual 254, 3) := by decide +kernel
theorem zd_Loader_enter_116 : decode kb_Loader_enter 116 = .ok (.aload_n 0, 1) := by decide +kernel
theorem zd_Loader_enter_117 : decode kb_Loader_enter 117 = .ok (.getfield 37, 3) := by decide +kernel
theorem zd_Loader_enter_120 : decode kb_Loader_enter 120 = .ok (.iload 4, 2) := by decide +kernel
theorem zd_Loader_enter_122 : decode kb_Loader_enter 122 = .ok (.invokevirtual 297, 3) := by decide +kernel
theorem zd_Loader_enter_125 : decode kb_Loader_enter 125 = .ok (.iload_n 2, 1) := by decide +kernel
theorem zd_Loader_enter_126 : decode kb_Loader_enter 126 = .ok (.aload_n 0, 1) := by decide +kernel
theorem zd_Loader_enter_127 : decode kb_Loader_enter 127 = .ok (.getfield 37, 3) := by decide +kernel
theorem zd_Loader_enter_130 : decode kb_Loader_enter 130 = .ok (.iload 4, 2) := by decide +kernel
theorem zd_Loader_enter_132 : decode kb_Loader_enter 132 = .ok (.invokevirtual 300, 3) := by decide +kernel
theorem zd_Loader_enter_135 : decode kb_Loader_enter 135 = .ok (.iadd, 1) := by decide +kernel
theorem zd_Loader_enter_136 : decode kb_Loader_enter 136 = .ok (.aload_n 3, 1) := by decide +kernel
theorem zd_Loader_enter_137 : decode kb_Loader_enter 137 = .ok (.invokespecial 101, 3) := by decide +kernel
theorem zd_Loader_enter_140 : decode kb_Loader_enter 140 = .ok (.invokevirtual 104, 3) := by decide +kernel
theorem zd_Loader_enter_143 : decode kb_Loader_enter 143 = .ok (.iinc 4 (1), 3) := by decide +kernel
theorem zd_Loader_enter_146 : decode kb_Loader_enter 146 = .ok (.goto (-59), 3) := by decide +kernel
theorem zd_Loader_enter_149 : decode kb_Loader_enter 149 = .ok (.aload_n 0, 1) := by decide +kernel
theorem zd_Loader_enter_150 : decode kb_Loader_enter 150 = .ok (.getfield 51, 3) := by decide +kernel
theorem zd_Loader_enter_153 : decode kb_Loader_enter 153 = .ok (.aload_n 3, 1) := by decide +kernel
theorem zd_Loader_enter_154 : decode kb_Loader_enter 154 = .ok (.invokevirtual 303, 3) := by decide +kernel
theorem zd_Loader_enter_157 : decode kb_Loader_enter 157 = .ok (.aload_n 3, 1) := by decide +kernel
theorem zd_Loader_enter_158 : decode kb_Loader_enter 158 = .ok (.areturn, 1) := by decide +kernel
def zp_Loader_enter_b62 (Po : Option Value → zz_S → Prop) (Px : String → zz_S → Prop) (rec17 : zz_S → Int32 → Nat → Int32 → Prop) (u : zz_S) (x2 : Int32) (x3 : Nat) (x4 : Int32) (y0 : Nat) (y1 : Option Nat) : Prop := xw_b (zz_ok u y0 9) fun w1 => xw_b (zf_LoadedModule_need u y0 y1) fun u2 => xw_n (x4 + (1 : Int32)) fun v3 => rec17 u2 x2 x3 v3
def zp_Loader_enter_b87 (Po : Option Value → zz_S → Prop) (Px : String → zz_S → Prop) : Nat → Nat → zz_S → Int32 → Nat → Int32 → Prop
  | 0, _, _, _, _, _ => False
  | n + 1, k, u, x2, x3, x4 => (k ≤ 8) ∧ (((u.1 7) ≤ x4 → (xw_b (zf_ModuleTable_insert u (some x3)) fun u1 => Po (some (va_rf (some x3))) u1)) ∧ (¬ (u.1 7) ≤ x4 → (xw_a (k < 8) <| zz_wn u fun a2 => xw_n (zz_more u a2 (7, [.int 0, .int 0, .int 0, .null])) fun u3 => xw_2 (zf_ModuleFile_exportName u3 x4) fun v5 u4 => xw_2 (zf_ModuleFile_exportCheck u4 x4) fun v7 u6 => xw_2 (zf_ModuleFile_exportOffset u6 x4) fun v9 u8 => xw_b (zf_Symbol_init u8 a2 v5 v7 (x2 + v9) (some x3)) fun u10 => xw_b (zf_SymbolTable_add u10 (some a2)) fun u11 => xw_n (x4 + (1 : Int32)) fun v12 => (zp_Loader_enter_b87 Po Px n) (k + 1) u11 x2 x3 v12)))
def zp_Loader_enter_b17 (Po : Option Value → zz_S → Prop) (Px : String → zz_S → Prop) : Nat → zz_S → Int32 → Nat → Int32 → Prop
  | 0, _, _, _, _ => False
  | n + 1, u, x2, x3, x4 => ((u.1 6) ≤ x4 → (xw_b (zz_pi u x3 9 5) fun v1 => xw_b (zf_Memory_guard u x2 v1 (1 : Int32)) fun u2 => xw_n (0 : Int32) fun v3 => zp_Loader_enter_b87 Po Px xx_fu 0 u2 x2 x3 v3)) ∧ (¬ (u.1 6) ≤ x4 → (xw_2 (zf_ModuleFile_importName u x4) fun v5 u4 => xw_2 (zf_SymbolTable_find u4 v5) fun v7 u6 => (v7 = none → (zp_Loader_enter_b62 Po Px (zp_Loader_enter_b17 Po Px n) u6 x2 x3 x4 x3 none)) ∧ (∀ a8 : Nat, v7 = some a8 → (xw_b (zz_pq u6 a8 7 3) fun v9 => zp_Loader_enter_b62 Po Px (zp_Loader_enter_b17 Po Px n) u6 x2 x3 x4 x3 v9))))
def zp_Loader_enter (Po : Option Value → zz_S → Prop) (Px : String → zz_S → Prop) (u : zz_S) (x1 : Int32) (x2 : Int32) : Prop := zz_wn u fun a1 => xw_n (zz_more u a1 (9, [.int 0, .int 0, .int 0, .int 0, .int 0, .int 0, .int 0, .int 0, .null, .int 0])) fun u2 => xw_cv (fun Po => zp_LoadedModule_init Po (fun _ _ => False) u2 a1 x1 x2) fun u3 => xw_n (0 : Int32) fun v4 => zp_Loader_enter_b17 Po Px xx_fu u3 x2 a1 v4
set_option maxHeartbeats 4000000 in
set_option maxRecDepth 100000 in
theorem zv_Loader_enter_b62 {p : Program} {l : Launch} {e : Env} {s : State} {m : MethodId} {args : Array Value} {below : List Frame} {meth : Method} {c : Code} {A : Nat → Prop} {g : xx_G} {Po : Option Value → zz_S → Prop} {Px : String → zz_S → Prop} (C : xx_C p s m args meth c kb_Loader_enter 6 kr_Loader (some (.object "ModuleLoader$LoadedModule"))) (CW : xw_C s c A) (hin : ky_Loader_enter.name = "<init>" → meth.name = "<init>") (hA : ∀ q, s.heap.size ≤ q → A q) (hK : va_K g.1 xx_cls (zz_T g) s) {rec17 : zz_S → Int32 → Nat → Int32 → Prop} (hrec17 : ∀ (u : zz_S) (x2 : Int32) (x3 : Nat) (x4 : Int32) (H : Heap) (locs : List Loc) (ls : Array Slot), rec17 u x2 x3 x4 → lv_has ls 6 [(0, .ref (g.2.1 0)), (2, .int x2), (3, .ref x3), (4, .int x4)] → va_P g.1 xx_cls (zz_W g u) H → va_D A (zz_W g u) → va_S A s.heap H locs → W p l e (xx_rmc 2 45 10 50) s m args below meth c H locs 2 18 (xw_MQ g.1 (zz_T g) (zz_W g) Po Px A below args s 10 50) (F0 m 17 ls [])) : ∀ (u : zz_S) (x2 : Int32) (x3 : Nat) (x4 : Int32) (y0 : Nat) (y1 : Option Nat) (H : Heap) (locs : List Loc) (ls : Array Slot), zp_Loader_enter_b62 Po Px rec17 u x2 x3 x4 y0 y1 → lv_has ls 6 [(0, .ref (g.2.1 0)), (2, .int x2), (3, .ref x3), (4, .int x4)] → va_P g.1 xx_cls (zz_W g u) H → va_D A (zz_W g u) → va_S A s.heap H locs → W p l e (xx_rmc 2 45 10 50) s m args below meth c H locs 2 18 (xw_MQ g.1 (zz_T g) (zz_W g) Po Px A below args s 10 50) (F0 m 62 ls [(va_rf y1), .ref y0]) := by
  have hx := C.1
  have hb := C.2.1
  have hown := C.2.2.2.1
  have hts := C.2.2.2.2.1
  intro u x2 x3 x4 y0 y1 H locs ls hF hl hP hD hS
  unfold zp_Loader_enter_b62 at hF
  obtain ⟨w1, ew1, hF⟩ := hF
  obtain ⟨u2, eu2, hF⟩ := hF
  refine zz_callP (cells1 := 2) (slots1 := 18) (ci := 9) (n := 1) (As := [(va_rf y1)]) (rest := []) C (zc_LoadedModule_need l g u y0 y1 u2 eu2) ⟨kw_718, kw_715, kw_716, kw_717, kw_18⟩ ⟨by decide +kernel, by decide +kernel, by decide +kernel⟩ rfl ⟨Nat.le_of_ble_eq_true rfl, Nat.le_of_ble_eq_true rfl⟩ ew1 rfl hl.1 rfl (Nat.le_of_ble_eq_true rfl) hA hK hP hD hS ⟨by decide, by decide⟩ rfl rfl rfl zd_Loader_enter_62 (fun H locs hP hD hS => ?_)
  obtain ⟨v3, ev3, hF⟩ := xw_n_some hF
  refine lv_iinc (k := 3) (v := v3) hx hb zd_Loader_enter_65 hl rfl (by rw [ev3, xx_lit1]) (by decide) rfl (fun ls hl => ?_)
  refine lv_goto (tgt := 17) hx hb zd_Loader_enter_68 (by decide) ?_
  exact hrec17 u2 x2 x3 v3 _ _ _ hF (lv_sub hl [1, 2, 3, 0] rfl) hP hD hS
set_option maxHeartbeats 4000000 in
set_option maxRecDepth 100000 in
theorem zv_Loader_enter_b87 {p : Program} {l : Launch} {e : Env} {s : State} {m : MethodId} {args : Array Value} {below : List Frame} {meth : Method} {c : Code} {A : Nat → Prop} {g : xx_G} {Po : Option Value → zz_S → Prop} {Px : String → zz_S → Prop} (C : xx_C p s m args meth c kb_Loader_enter 6 kr_Loader (some (.object "ModuleLoader$LoadedModule"))) (CW : xw_C s c A) (hin : ky_Loader_enter.name = "<init>" → meth.name = "<init>") (hA : ∀ q, s.heap.size ≤ q → A q) (hK : va_K g.1 xx_cls (zz_T g) s) : ∀ (n : Nat), ∀ (k : Nat) (u : zz_S) (x2 : Int32) (x3 : Nat) (x4 : Int32) (H : Heap) (locs : List Loc) (ls : Array Slot), zp_Loader_enter_b87 Po Px n k u x2 x3 x4 → lv_has ls 6 [(0, .ref (g.2.1 0)), (2, .int x2), (3, .ref x3), (4, .int x4)] → va_P g.1 xx_cls (zz_W g u) H → va_D A (zz_W g u) → va_S A s.heap H locs → W p l e (xx_rmc 2 45 10 50) s m args below meth c H locs (2 + k) (18 + 4 * k) (xw_MQ g.1 (zz_T g) (zz_W g) Po Px A below args s 10 50) (F0 m 87 ls []) := by
  have hx := C.1
  have hb := C.2.1
  have hown := C.2.2.2.1
  have hts := C.2.2.2.2.1
  intro n
  induction n with
  | zero =>
    intro k u x2 x3 x4 H locs ls hF
    rw [zp_Loader_enter_b87] at hF
    cases hF
  | succ n ih =>
    intro k u x2 x3 x4 H locs ls hF hl hP hD hS
    rw [zp_Loader_enter_b87] at hF
    obtain ⟨hk8, hF⟩ := hF
    refine lv_iload hx hb zd_Loader_enter_87 (lv_at hl 3 rfl) ?_
    refine lv_aload_n hx hb zd_Loader_enter_89 rfl (lv_at hl 0 rfl) ?_
    refine xx_get C ki_Loader hK hP 0 rfl rfl 3 (by decide) kw_190 rfl rfl zd_Loader_enter_90 ?_
    refine xx_get C ki_ModuleFile hK hP 8 rfl rfl 2 (by decide) kw_94 rfl rfl zd_Loader_enter_93 ?_
    refine lv_icmp_ge (tgt := 149) hx hb zd_Loader_enter_96 (by decide) (fun hc => ?_) (fun hc => ?_)
    · have hF := hF.1 hc
      refine lv_aload_n hx hb zd_Loader_enter_149 rfl (lv_at hl 0 rfl) ?_
      refine xx_get C ki_Loader hK hP 0 rfl rfl 5 (by decide) kw_192 rfl rfl zd_Loader_enter_150 ?_
      refine lv_aload_n hx hb zd_Loader_enter_153 rfl (lv_at hl 2 rfl) ?_
      obtain ⟨u1, eu1, hF⟩ := hF
      refine xx_callV (cells1 := (2 + k)) (slots1 := (18 + 4 * k)) (n := 1) (As := [.ref x3]) (rest := []) C (zc_ModuleTable_insert l g u (some x3) u1 eu1) ⟨kw_728, kw_725, kw_726, kw_727, kw_7⟩ ⟨by decide +kernel, by decide +kernel, by decide +kernel⟩ rfl ⟨Nat.le_of_ble_eq_true rfl, Nat.le_of_ble_eq_true rfl⟩ 11 rfl rfl hl.1 rfl (Nat.le_of_ble_eq_true rfl) hA hK hP hD hS ⟨by show (2 + k) + 0 ≤ 10; omega, by show (18 + 4 * k) + 0 ≤ 50; omega⟩ rfl rfl rfl zd_Loader_enter_154 (fun H locs hP hD hS => ?_)
      refine lv_aload_n hx hb zd_Loader_enter_157 rfl (lv_at hl 2 rfl) ?_
      exact xw_qret (x := (some x3)) C (by show (2 + k) ≤ 10; omega) (by show (18 + 4 * k) ≤ 50; omega) hF hK hP hD hS zd_Loader_enter_158
    · have hF := hF.2 hc
      refine lv_aload_n hx hb zd_Loader_enter_99 rfl (lv_at hl 0 rfl) ?_
      refine xx_get C ki_Loader hK hP 0 rfl rfl 4 (by decide) kw_191 rfl rfl zd_Loader_enter_100 ?_
      obtain ⟨hk9, hF⟩ := hF
      refine zz_new (u := u) (ci := 7) (fs := [.int 0, .int 0, .int 0, .null]) (cells1 := (2 + (k + 1))) (slots1 := (18 + 4 * (k + 1))) C ki_Symbol kt_Symbol ko_Symbol ⟨kw_456, kw_457, kw_16⟩ hK hP hD hS hA rfl kd_Symbol (by show (2 + k) + 1 ≤ 10; omega) (by show (18 + 4 * k) + 4 ≤ 50; omega) (by omega) (by omega) zd_Loader_enter_103 (fun a2 H hq hP hD hS => ?_)
      have hF := hF a2 hq
      obtain ⟨u3, eu3, hF⟩ := xw_n_some hF
      rw [← eu3] at hP hD
      refine lv_dup hx hb zd_Loader_enter_106 rfl ?_
      refine lv_aload_n hx hb zd_Loader_enter_107 rfl (lv_at hl 0 rfl) ?_
      refine xx_get C ki_Loader hK hP 0 rfl rfl 3 (by decide) kw_190 rfl rfl zd_Loader_enter_108 ?_
      refine lv_iload hx hb zd_Loader_enter_111 (lv_at hl 3 rfl) ?_
      obtain ⟨v5, u4, eu4, hF⟩ := hF
      refine xx_callV (cells1 := (2 + (k + 1))) (slots1 := (18 + 4 * (k + 1))) (n := 1) (As := [.int x4]) (rest := [.ref a2, .ref a2, .ref (g.2.1 9)]) C (zc_ModuleFile_exportName l g u3 x4 v5 u4 eu4) ⟨kw_544, kw_598, kw_542, kw_543, kw_5⟩ ⟨by decide +kernel, by decide +kernel, by decide +kernel⟩ rfl ⟨Nat.le_of_ble_eq_true rfl, Nat.le_of_ble_eq_true rfl⟩ 8 rfl rfl hl.1 rfl (Nat.le_of_ble_eq_true rfl) hA hK hP hD hS ⟨by show (2 + (k + 1)) + 0 ≤ 10; omega, by show (18 + 4 * (k + 1)) + 0 ≤ 50; omega⟩ rfl rfl rfl zd_Loader_enter_113 (fun H locs hP hD hS => ?_)
      refine lv_aload_n hx hb zd_Loader_enter_116 rfl (lv_at hl 0 rfl) ?_
      refine xx_get C ki_Loader hK hP 0 rfl rfl 3 (by decide) kw_190 rfl rfl zd_Loader_enter_117 ?_
      refine lv_iload hx hb zd_Loader_enter_120 (lv_at hl 3 rfl) ?_
      obtain ⟨v7, u6, eu6, hF⟩ := hF
      refine xx_callV (cells1 := (2 + (k + 1))) (slots1 := (18 + 4 * (k + 1))) (n := 1) (As := [.int x4]) (rest := [.int v5, .ref a2, .ref a2, .ref (g.2.1 9)]) C (zc_ModuleFile_exportCheck l g u4 x4 v7 u6 eu6) ⟨kw_723, kw_720, kw_721, kw_722, kw_5⟩ ⟨by decide +kernel, by decide +kernel, by decide +kernel⟩ rfl ⟨Nat.le_of_ble_eq_true rfl, Nat.le_of_ble_eq_true rfl⟩ 8 rfl rfl hl.1 rfl (Nat.le_of_ble_eq_true rfl) hA hK hP hD hS ⟨by show (2 + (k + 1)) + 0 ≤ 10; omega, by show (18 + 4 * (k + 1)) + 0 ≤ 50; omega⟩ rfl rfl rfl zd_Loader_enter_122 (fun H locs hP hD hS => ?_)
      refine lv_iload_n hx hb zd_Loader_enter_125 rfl (lv_at hl 1 rfl) ?_
      refine lv_aload_n hx hb zd_Loader_enter_126 rfl (lv_at hl 0 rfl) ?_
      refine xx_get C ki_Loader hK hP 0 rfl rfl 3 (by decide) kw_190 rfl rfl zd_Loader_enter_127 ?_
      refine lv_iload hx hb zd_Loader_enter_130 (lv_at hl 3 rfl) ?_
      obtain ⟨v9, u8, eu8, hF⟩ := hF
      refine xx_callV (cells1 := (2 + (k + 1))) (slots1 := (18 + 4 * (k + 1))) (n := 1) (As := [.int x4]) (rest := [.int x2, .int v7, .int v5, .ref a2, .ref a2, .ref (g.2.1 9)]) C (zc_ModuleFile_exportOffset l g u6 x4 v9 u8 eu8) ⟨kw_548, kw_724, kw_546, kw_547, kw_5⟩ ⟨by decide +kernel, by decide +kernel, by decide +kernel⟩ rfl ⟨Nat.le_of_ble_eq_true rfl, Nat.le_of_ble_eq_true rfl⟩ 8 rfl rfl hl.1 rfl (Nat.le_of_ble_eq_true rfl) hA hK hP hD hS ⟨by show (2 + (k + 1)) + 0 ≤ 10; omega, by show (18 + 4 * (k + 1)) + 0 ≤ 50; omega⟩ rfl rfl rfl zd_Loader_enter_132 (fun H locs hP hD hS => ?_)
      refine lv_iadd hx hb zd_Loader_enter_135 ?_
      refine lv_aload_n hx hb zd_Loader_enter_136 rfl (lv_at hl 2 rfl) ?_
      obtain ⟨u10, eu10, hF⟩ := hF
      refine xx_callI (cells1 := (2 + (k + 1))) (slots1 := (18 + 4 * (k + 1))) (n := 4) (As := [.int v5, .int v7, .int (x2 + v9), .ref x3]) (rest := [.ref a2, .ref (g.2.1 9)]) C (zc_Symbol_init l g u8 a2 v5 v7 (x2 + v9) (some x3) u10 eu10) ⟨kw_460, kw_458, kw_459, kw_16⟩ rfl ⟨by decide +kernel, by decide +kernel, by decide +kernel⟩ rfl ⟨Nat.le_of_ble_eq_true rfl, Nat.le_of_ble_eq_true rfl⟩ hl.1 rfl (Nat.le_of_ble_eq_true rfl) hA hK hP hD hS ⟨by show (2 + (k + 1)) + 0 ≤ 10; omega, by show (18 + 4 * (k + 1)) + 0 ≤ 50; omega⟩ rfl rfl zd_Loader_enter_137 (fun H locs hP hD hS => ?_)
      obtain ⟨u11, eu11, hF⟩ := hF
      refine xx_callV (cells1 := (2 + (k + 1))) (slots1 := (18 + 4 * (k + 1))) (n := 1) (As := [.ref a2]) (rest := []) C (zc_SymbolTable_add l g u10 (some a2) u11 eu11) ⟨kw_483, kw_480, kw_481, kw_482, kw_6⟩ ⟨by decide +kernel, by decide +kernel, by decide +kernel⟩ rfl ⟨Nat.le_of_ble_eq_true rfl, Nat.le_of_ble_eq_true rfl⟩ 9 rfl rfl hl.1 rfl (Nat.le_of_ble_eq_true rfl) hA hK hP hD hS ⟨by show (2 + (k + 1)) + 0 ≤ 10; omega, by show (18 + 4 * (k + 1)) + 0 ≤ 50; omega⟩ rfl rfl rfl zd_Loader_enter_140 (fun H locs hP hD hS => ?_)
      obtain ⟨v12, ev12, hF⟩ := xw_n_some hF
      refine lv_iinc (k := 3) (v := v12) hx hb zd_Loader_enter_143 hl rfl (by rw [ev12, xx_lit1]) (by decide) rfl (fun ls hl => ?_)
      refine lv_goto (tgt := 87) hx hb zd_Loader_enter_146 (by decide) ?_
      exact ih (k + 1) u11 x2 x3 v12 _ _ _ hF (lv_sub hl [1, 2, 3, 0] rfl) hP hD hS
set_option maxHeartbeats 4000000 in
set_option maxRecDepth 100000 in
theorem zv_Loader_enter_b17 {p : Program} {l : Launch} {e : Env} {s : State} {m : MethodId} {args : Array Value} {below : List Frame} {meth : Method} {c : Code} {A : Nat → Prop} {g : xx_G} {Po : Option Value → zz_S → Prop} {Px : String → zz_S → Prop} (C : xx_C p s m args meth c kb_Loader_enter 6 kr_Loader (some (.object "ModuleLoader$LoadedModule"))) (CW : xw_C s c A) (hin : ky_Loader_enter.name = "<init>" → meth.name = "<init>") (hA : ∀ q, s.heap.size ≤ q → A q) (hK : va_K g.1 xx_cls (zz_T g) s) : ∀ (n : Nat), ∀ (u : zz_S) (x2 : Int32) (x3 : Nat) (x4 : Int32) (H : Heap) (locs : List Loc) (ls : Array Slot), zp_Loader_enter_b17 Po Px n u x2 x3 x4 → lv_has ls 6 [(0, .ref (g.2.1 0)), (2, .int x2), (3, .ref x3), (4, .int x4)] → va_P g.1 xx_cls (zz_W g u) H → va_D A (zz_W g u) → va_S A s.heap H locs → W p l e (xx_rmc 2 45 10 50) s m args below meth c H locs 2 18 (xw_MQ g.1 (zz_T g) (zz_W g) Po Px A below args s 10 50) (F0 m 17 ls []) := by
  have hx := C.1
  have hb := C.2.1
  have hown := C.2.2.2.1
  have hts := C.2.2.2.2.1
  intro n
  induction n with
  | zero =>
    intro u x2 x3 x4 H locs ls hF
    rw [zp_Loader_enter_b17] at hF
    cases hF
  | succ n ih =>
    intro u x2 x3 x4 H locs ls hF hl hP hD hS
    rw [zp_Loader_enter_b17] at hF
    refine lv_iload hx hb zd_Loader_enter_17 (lv_at hl 3 rfl) ?_
    refine lv_aload_n hx hb zd_Loader_enter_19 rfl (lv_at hl 0 rfl) ?_
    refine xx_get C ki_Loader hK hP 0 rfl rfl 3 (by decide) kw_190 rfl rfl zd_Loader_enter_20 ?_
    refine xx_get C ki_ModuleFile hK hP 8 rfl rfl 1 (by decide) kw_91 rfl rfl zd_Loader_enter_23 ?_
    refine lv_icmp_ge (tgt := 71) hx hb zd_Loader_enter_26 (by decide) (fun hc => ?_) (fun hc => ?_)
    · have hF := hF.1 hc
      refine lv_aload_n hx hb zd_Loader_enter_71 rfl (lv_at hl 0 rfl) ?_
      refine xx_get C ki_Loader hK hP 0 rfl rfl 0 (by decide) kw_187 rfl rfl zd_Loader_enter_72 ?_
      refine lv_iload_n hx hb zd_Loader_enter_75 rfl (lv_at hl 1 rfl) ?_
      refine lv_aload_n hx hb zd_Loader_enter_76 rfl (lv_at hl 2 rfl) ?_
      obtain ⟨v1, ev1, hF⟩ := hF
      refine zz_get (a := x3) (u := u) (ci := 9) C ki_LoadedModule hK hP rfl 5 (by decide) kw_687 rfl (zz_pi_some ev1) zd_Loader_enter_77 ?_
      refine lv_iconst (v := (1 : Int32)) hx hb zd_Loader_enter_80 (by decide) ?_
      obtain ⟨u2, eu2, hF⟩ := hF
      refine xx_callV (cells1 := 2) (slots1 := 18) (n := 3) (As := [.int x2, .int v1, .int (1 : Int32)]) (rest := []) C (zc_Memory_guard l g u x2 v1 (1 : Int32) u2 eu2) ⟨kw_219, kw_216, kw_217, kw_218, kw_2⟩ ⟨by decide +kernel, by decide +kernel, by decide +kernel⟩ rfl ⟨Nat.le_of_ble_eq_true rfl, Nat.le_of_ble_eq_true rfl⟩ 1 rfl rfl hl.1 rfl (Nat.le_of_ble_eq_true rfl) hA hK hP hD hS ⟨by decide, by decide⟩ rfl rfl rfl zd_Loader_enter_81 (fun H locs hP hD hS => ?_)
      refine lv_iconst (v := (0 : Int32)) hx hb zd_Loader_enter_84 (by decide) ?_
      obtain ⟨v3, ev3, hF⟩ := xw_n_some hF
      refine xx_topi ev3 ?_
      refine lv_istore hx hb zd_Loader_enter_85 hl (by decide) rfl (fun ls hl => ?_)
      exact zv_Loader_enter_b87 C CW hin hA hK xx_fu 0 u2 x2 x3 v3 _ _ _ hF (lv_sub hl [1, 2, 3, 0] rfl) hP hD hS
    · have hF := hF.2 hc
      refine lv_aload_n hx hb zd_Loader_enter_29 rfl (lv_at hl 0 rfl) ?_
      refine xx_get C ki_Loader hK hP 0 rfl rfl 4 (by decide) kw_191 rfl rfl zd_Loader_enter_30 ?_
      refine lv_aload_n hx hb zd_Loader_enter_33 rfl (lv_at hl 0 rfl) ?_
      refine xx_get C ki_Loader hK hP 0 rfl rfl 3 (by decide) kw_190 rfl rfl zd_Loader_enter_34 ?_
      refine lv_iload hx hb zd_Loader_enter_37 (lv_at hl 3 rfl) ?_
      obtain ⟨v5, u4, eu4, hF⟩ := hF
      refine xx_callV (cells1 := 2) (slots1 := 18) (n := 1) (As := [.int x4]) (rest := [.ref (g.2.1 9)]) C (zc_ModuleFile_importName l g u x4 v5 u4 eu4) ⟨kw_535, kw_585, kw_533, kw_534, kw_5⟩ ⟨by decide +kernel, by decide +kernel, by decide +kernel⟩ rfl ⟨Nat.le_of_ble_eq_true rfl, Nat.le_of_ble_eq_true rfl⟩ 8 rfl rfl hl.1 rfl (Nat.le_of_ble_eq_true rfl) hA hK hP hD hS ⟨by decide, by decide⟩ rfl rfl rfl zd_Loader_enter_39 (fun H locs hP hD hS => ?_)
      obtain ⟨v7, u6, eu6, hF⟩ := hF
      refine xx_callV (cells1 := 2) (slots1 := 18) (n := 1) (As := [.int v5]) (rest := []) C (zc_SymbolTable_find l g u4 v5 v7 u6 eu6) ⟨kw_271, kw_268, kw_269, kw_270, kw_6⟩ ⟨by decide +kernel, by decide +kernel, by decide +kernel⟩ rfl ⟨Nat.le_of_ble_eq_true rfl, Nat.le_of_ble_eq_true rfl⟩ 9 rfl rfl hl.1 rfl (Nat.le_of_ble_eq_true rfl) hA hK hP hD hS ⟨by decide, by decide⟩ rfl rfl rfl zd_Loader_enter_42 (fun H locs hP hD hS => ?_)
      refine xx_astW C zd_Loader_enter_45 hl (by decide) rfl (fun ls hl => ?_)
      refine lv_aload_n hx hb zd_Loader_enter_47 rfl (lv_at hl 3 rfl) ?_
      refine xx_aldW C zd_Loader_enter_48 (lv_at hl 0 rfl) ?_
      refine xx_ifnonnull (tgt := 57) C zd_Loader_enter_50 (by decide) (fun en => ?_) (fun a8 ea8 => ?_)
      · have hF := hF.1 en
        refine lv_null hx hb zd_Loader_enter_53 ?_
        refine lv_goto (tgt := 62) hx hb zd_Loader_enter_54 (by decide) ?_
        exact zv_Loader_enter_b62 C CW hin hA hK ih u6 x2 x3 x4 x3 none _ _ _ hF (lv_sub hl [1, 2, 3, 4] rfl) hP hD hS
      · have hF := hF.2 a8 ea8
        refine xx_aldW C zd_Loader_enter_57 (lv_at hl 0 rfl) ?_
        rw [ea8]
        obtain ⟨v9, ev9, hF⟩ := hF
        refine zz_get (a := a8) (u := u6) (ci := 7) C ki_Symbol hK hP rfl 3 (by decide) kw_470 rfl (zz_pq_some ev9) zd_Loader_enter_59 ?_
        exact zv_Loader_enter_b62 C CW hin hA hK ih u6 x2 x3 x4 x3 v9 _ _ _ hF (lv_sub hl [1, 2, 3, 4] rfl) hP hD hS
set_option maxHeartbeats 4000000 in
set_option maxRecDepth 100000 in
theorem zc_Loader_enter (l : Launch) (g : xx_G) (u : zz_S) (x1 : Int32) (x2 : Int32) (Po : Option Value → zz_S → Prop) (Px : String → zz_S → Prop) (hF : zp_Loader_enter Po Px u x1 x2) : xw_M l g.1 (zz_T g) (zz_W g) ky_Loader_enter kb_Loader_enter 6 (some (.object "ModuleLoader$LoadedModule")) (xx_rmc 2 45 10 50) [.ref (g.2.1 0), .int x1, .int x2] u Po Px := by
  refine xw_body (by decide) (Nat.le_of_ble_eq_true rfl) ?_
  intro p e s m args below meth c A ls C CW hin hK hl hA hP hD hS
  have hx := C.1
  have hb := C.2.1
  have hown := C.2.2.2.1
  have hts := C.2.2.2.2.1
  have hl : lv_has ls 6 [(0, .ref (g.2.1 0)), (1, .int x1), (2, .int x2)] := hl
  unfold zp_Loader_enter at hF
  refine zz_new (u := u) (ci := 9) (fs := [.int 0, .int 0, .int 0, .int 0, .int 0, .int 0, .int 0, .int 0, .null, .int 0]) (cells1 := 1) (slots1 := 10) C ki_LoadedModule kt_LoadedModule ko_LoadedModule ⟨kw_666, kw_667, kw_18⟩ hK hP hD hS hA rfl kd_LoadedModule (by decide) (by decide) rfl rfl zd_Loader_enter_0 (fun a1 H hq hP hD hS => ?_)
  have hF := hF a1 hq
  obtain ⟨u2, eu2, hF⟩ := xw_n_some hF
  rw [← eu2] at hP hD
  refine lv_dup hx hb zd_Loader_enter_3 rfl ?_
  refine lv_iload_n hx hb zd_Loader_enter_4 rfl (lv_at hl 1 rfl) ?_
  refine lv_iload_n hx hb zd_Loader_enter_5 rfl (lv_at hl 2 rfl) ?_
  refine lv_aload_n hx hb zd_Loader_enter_6 rfl (lv_at hl 0 rfl) ?_
  refine xx_get C ki_Loader hK hP 0 rfl rfl 3 (by decide) kw_190 rfl rfl zd_Loader_enter_7 ?_
  have hF := xw_cv_e hF
  refine xw_callI (cells1 := 2) (slots1 := 18) (n := 3) (As := [.int x1, .int x2, .ref (g.2.1 8)]) (rest := [.ref a1]) C CW (zc_LoadedModule_init l g u2 a1 x1 x2 _ _ hF) ⟨kw_670, kw_668, kw_669, kw_18⟩ rfl ⟨by decide +kernel, by decide +kernel, by decide +kernel⟩ rfl ⟨Nat.le_of_ble_eq_true rfl, Nat.le_of_ble_eq_true rfl⟩ hl.1 rfl (Nat.le_of_ble_eq_true rfl) hA hK hP hD hS ⟨by decide, by decide⟩ rfl rfl zd_Loader_enter_10 (fun rv u3 H locs hPo hP hD hS => ?_)
  obtain ⟨rfl, hF⟩ := hPo
  refine lv_astore_n hx hb zd_Loader_enter_13 rfl hl (by decide) rfl (fun ls hl => ?_)
  refine lv_iconst (v := (0 : Int32)) hx hb zd_Loader_enter_14 (by decide) ?_
  obtain ⟨v4, ev4, hF⟩ := xw_n_some hF
  refine xx_topi ev4 ?_
  refine lv_istore hx hb zd_Loader_enter_15 hl (by decide) rfl (fun ls hl => ?_)
  exact zv_Loader_enter_b17 C CW hin hA hK xx_fu u3 x2 a1 v4 _ _ _ hF (lv_sub hl [2, 4, 1, 0] rfl) hP hD hS
set_option maxRecDepth 100000 in
theorem kw_505 : Cond.code ky_ModuleFile_read kb_ModuleFile_read 2 (some .boolean) ∈ xx_tb := xx_in (List.mem_append_right _ (List.mem_of_getElem? (i := 505) (by rfl))) (by decide +kernel)
theorem kw_502 : Cond.methodLink "ModuleLoader" 218 ky_ModuleFile_read ∈ xx_tb := xx_in (List.mem_append_right _ (List.mem_of_getElem? (i := 502) (by decide +kernel))) (by decide +kernel)
theorem kw_503 : Cond.instanceMethod ky_ModuleFile_read ∈ xx_tb := xx_in (List.mem_append_right _ (List.mem_of_getElem? (i := 503) (by decide +kernel))) (by decide +kernel)
theorem kw_504 : Cond.selects "ModuleLoader$ModuleFile" ky_ModuleFile_read ky_ModuleFile_read ∈ xx_tb := xx_in (List.mem_append_right _ (List.mem_of_getElem? (i := 504) (by decide +kernel))) (by decide +kernel)
set_option maxRecDepth 100000 in
theorem kw_576 : Cond.code ky_Loader_checkNames kb_Loader_checkNames 2 none ∈ xx_tb := xx_in (List.mem_append_right _ (List.mem_of_getElem? (i := 576) (by rfl))) (by decide +kernel)
theorem kw_573 : Cond.methodLink "ModuleLoader" 221 ky_Loader_checkNames ∈ xx_tb := xx_in (List.mem_append_right _ (List.mem_of_getElem? (i := 573) (by decide +kernel))) (by decide +kernel)
theorem kw_575 : Cond.instanceMethod ky_Loader_checkNames ∈ xx_tb := xx_in (List.mem_append_right _ (List.mem_of_getElem? (i := 575) (by decide +kernel))) (by decide +kernel)
theorem ks_Loader_checkNames : Cond.selects "ModuleLoader" ky_Loader_checkNames ky_Loader_checkNames ∈ xx_tb := xx_in (List.mem_append_left _ (by decide +kernel)) (by decide +kernel)
set_option maxRecDepth 100000 in
theorem kw_602 : Cond.code ky_Loader_findRoom kb_Loader_findRoom 3 (some .int) ∈ xx_tb := xx_in (List.mem_append_right _ (List.mem_of_getElem? (i := 602) (by rfl))) (by decide +kernel)
theorem kw_599 : Cond.methodLink "ModuleLoader" 225 ky_Loader_findRoom ∈ xx_tb := xx_in (List.mem_append_right _ (List.mem_of_getElem? (i := 599) (by decide +kernel))) (by decide +kernel)
theorem kw_601 : Cond.instanceMethod ky_Loader_findRoom ∈ xx_tb := xx_in (List.mem_append_right _ (List.mem_of_getElem? (i := 601) (by decide +kernel))) (by decide +kernel)
theorem ks_Loader_findRoom : Cond.selects "ModuleLoader" ky_Loader_findRoom ky_Loader_findRoom ∈ xx_tb := xx_in (List.mem_append_left _ (by decide +kernel)) (by decide +kernel)
set_option maxRecDepth 100000 in
theorem kw_635 : Cond.code ky_Loader_writeImage kb_Loader_writeImage 5 none ∈ xx_tb := xx_in (List.mem_append_right _ (List.mem_of_getElem? (i := 635) (by rfl))) (by decide +kernel)
theorem kw_632 : Cond.methodLink "ModuleLoader" 228 ky_Loader_writeImage ∈ xx_tb := xx_in (List.mem_append_right _ (List.mem_of_getElem? (i := 632) (by decide +kernel))) (by decide +kernel)
theorem kw_634 : Cond.instanceMethod ky_Loader_writeImage ∈ xx_tb := xx_in (List.mem_append_right _ (List.mem_of_getElem? (i := 634) (by decide +kernel))) (by decide +kernel)
theorem ks_Loader_writeImage : Cond.selects "ModuleLoader" ky_Loader_writeImage ky_Loader_writeImage ∈ xx_tb := xx_in (List.mem_append_left _ (by decide +kernel)) (by decide +kernel)
set_option maxRecDepth 100000 in
theorem kw_665 : Cond.code ky_Loader_enter kb_Loader_enter 6 (some (.object "ModuleLoader$LoadedModule")) ∈ xx_tb := xx_in (List.mem_append_right _ (List.mem_of_getElem? (i := 665) (by rfl))) (by decide +kernel)
theorem kw_662 : Cond.methodLink "ModuleLoader" 231 ky_Loader_enter ∈ xx_tb := xx_in (List.mem_append_right _ (List.mem_of_getElem? (i := 662) (by decide +kernel))) (by decide +kernel)
theorem kw_664 : Cond.instanceMethod ky_Loader_enter ∈ xx_tb := xx_in (List.mem_append_right _ (List.mem_of_getElem? (i := 664) (by decide +kernel))) (by decide +kernel)
theorem ks_Loader_enter : Cond.selects "ModuleLoader" ky_Loader_enter ky_Loader_enter ∈ xx_tb := xx_in (List.mem_append_left _ (by decide +kernel)) (by decide +kernel)
theorem zd_Loader_bringIn_0 : decode kb_Loader_bringIn 0 = .ok (.aload_n 0, 1) := by decide +kernel
theorem zd_Loader_bringIn_1 : decode kb_Loader_bringIn 1 = .ok (.getfield 37, 3) := by decide +kernel
theorem zd_Loader_bringIn_4 : decode kb_Loader_bringIn 4 = .ok (.invokevirtual 218, 3) := by decide +kernel
theorem zd_Loader_bringIn_7 : decode kb_Loader_bringIn 7 = .ok (.ifCond .ne (14), 3) := by decide +kernel
theorem zd_Loader_bringIn_10 : decode kb_Loader_bringIn 10 = .ok (.aload_n 0, 1) := by decide +kernel
theorem zd_Loader_bringIn_11 : decode kb_Loader_bringIn 11 = .ok (.getfield 58, 3) := by decide +kernel
theorem zd_Loader_bringIn_14 : decode kb_Loader_bringIn 14 = .ok (.iconst 1, 1) := by decide +kernel
theorem zd_Loader_bringIn_15 : decode kb_Loader_bringIn 15 = .ok (.iconst (-1), 1) := by decide +kernel
theorem zd_Loader_bringIn_16 : decode kb_Loader_bringIn 16 = .ok (.invokevirtual 167, 3) := by decide +kernel
theorem zd_Loader_bringIn_19 : decode kb_Loader_bringIn 19 = .ok (.aconst_null, 1) := by decide +kernel
theorem zd_Loader_bringIn_20 : decode kb_Loader_bringIn 20 = .ok (.areturn, 1) := by decide +kernel
theorem zd_Loader_bringIn_21 : decode kb_Loader_bringIn 21 = .ok (.aload_n 0, 1) := by decide +kernel
theorem zd_Loader_bringIn_22 : decode kb_Loader_bringIn 22 = .ok (.iload_n 1, 1) := by decide +kernel
theorem zd_Loader_bringIn_23 : decode kb_Loader_bringIn 23 = .ok (.invokevirtual 221, 3) := by decide +kernel
theorem zd_Loader_bringIn_26 : decode kb_Loader_bringIn 26 = .ok (.aload_n 0, 1) := by decide +kernel
theorem zd_Loader_bringIn_27 : decode kb_Loader_bringIn 27 = .ok (.getfield 58, 3) := by decide +kernel
theorem zd_Loader_bringIn_30 : decode kb_Loader_bringIn 30 = .ok (.invokevirtual 142, 3) := by decide +kernel
theorem zd_Loader_bringIn_33 : decode kb_Loader_bringIn 33 = .ok (.ifCond .eq (7), 3) := by decide +kernel
theorem zd_Loader_bringIn_36 : decode kb_Loader_bringIn 36 = .ok (.iconst (-1), 1) := by decide +kernel
theorem zd_Loader_bringIn_37 : decode kb_Loader_bringIn 37 = .ok (.goto (7), 3) := by decide +kernel
theorem zd_Loader_bringIn_40 : decode kb_Loader_bringIn 40 = .ok (.aload_n 0, 1) := by decide +kernel
theorem zd_Loader_bringIn_41 : decode kb_Loader_bringIn 41 = .ok (.invokevirtual 225, 3) := by decide +kernel
theorem zd_Loader_bringIn_44 : decode kb_Loader_bringIn 44 = .ok (.istore_n 2, 1) := by decide +kernel
theorem zd_Loader_bringIn_45 : decode kb_Loader_bringIn 45 = .ok (.aload_n 0, 1) := by decide +kernel
theorem zd_Loader_bringIn_46 : decode kb_Loader_bringIn 46 = .ok (.getfield 58, 3) := by decide +kernel
theorem zd_Loader_bringIn_49 : decode kb_Loader_bringIn 49 = .ok (.invokevirtual 142, 3) := by decide +kernel
theorem zd_Loader_bringIn_52 : decode kb_Loader_bringIn 52 = .ok (.ifCond .eq (5), 3) := by decide +kernel
theorem zd_Loader_bringIn_55 : decode kb_Loader_bringIn 55 = .ok (.aconst_null, 1) := by decide +kernel
theorem zd_Loader_bringIn_56 : decode kb_Loader_bringIn 56 = .ok (.areturn, 1) := by decide +kernel
theorem zd_Loader_bringIn_57 : decode kb_Loader_bringIn 57 = .ok (.aload_n 0, 1) := by decide +kernel
theorem zd_Loader_bringIn_58 : decode kb_Loader_bringIn 58 = .ok (.iload_n 2, 1) := by decide +kernel
theorem zd_Loader_bringIn_59 : decode kb_Loader_bringIn 59 = .ok (.invokevirtual 228, 3) := by decide +kernel
theorem zd_Loader_bringIn_62 : decode kb_Loader_bringIn 62 = .ok (.aload_n 0, 1) := by decide +kernel
theorem zd_Loader_bringIn_63 : decode kb_Loader_bringIn 63 = .ok (.iload_n 1, 1) := by decide +kernel
theorem zd_Loader_bringIn_64 : decode kb_Loader_bringIn 64 = .ok (.iload_n 2, 1) := by decide +kernel
theorem zd_Loader_bringIn_65 : decode kb_Loader_bringIn 65 = .ok (.invokevirtual 231, 3) := by decide +kernel
theorem zd_Loader_bringIn_68 : decode kb_Loader_bringIn 68 = .ok (.areturn, 1) := by decide +kernel
def zp_Loader_bringIn_b44 (Po : Option Value → zz_S → Prop) (Px : String → zz_S → Prop) (u : zz_S) (x1 : Int32) (y0 : Int32) : Prop := xw_2 (zf_Report_hasFault u) fun v2 u1 => (v2 = 0 → (xw_b (zf_Loader_writeImage u1 y0) fun u3 => xw_cq (fun Po => zp_Loader_enter Po (fun _ _ => False) u3 x1 y0) fun v5 u4 => Po (some (va_rf v5)) u4)) ∧ (¬ v2 = 0 → (Po (some (va_rf none)) u1))
def zp_Loader_bringIn (Po : Option Value → zz_S → Prop) (Px : String → zz_S → Prop) (u : zz_S) (x1 : Int32) : Prop := xw_2 (zf_ModuleFile_read u) fun v2 u1 => (v2 = 0 → (xw_b (zf_Report_blame u1 (1 : Int32) (-1 : Int32)) fun u8 => Po (some (va_rf none)) u8)) ∧ (¬ v2 = 0 → (xw_b (zf_Loader_checkNames u1 x1) fun u3 => xw_2 (zf_Report_hasFault u3) fun v5 u4 => (v5 = 0 → (xw_2 (zf_Loader_findRoom u4) fun v7 u6 => zp_Loader_bringIn_b44 Po Px u6 x1 v7)) ∧ (¬ v5 = 0 → (zp_Loader_bringIn_b44 Po Px u4 x1 (-1 : Int32)))))
set_option maxHeartbeats 4000000 in
set_option maxRecDepth 100000 in
theorem zv_Loader_bringIn_b44 {p : Program} {l : Launch} {e : Env} {s : State} {m : MethodId} {args : Array Value} {below : List Frame} {meth : Method} {c : Code} {A : Nat → Prop} {g : xx_G} {Po : Option Value → zz_S → Prop} {Px : String → zz_S → Prop} (C : xx_C p s m args meth c kb_Loader_bringIn 3 kr_Loader (some (.object "ModuleLoader$LoadedModule"))) (CW : xw_C s c A) (hin : ky_Loader_bringIn.name = "<init>" → meth.name = "<init>") (hA : ∀ q, s.heap.size ≤ q → A q) (hK : va_K g.1 xx_cls (zz_T g) s) : ∀ (u : zz_S) (x1 : Int32) (y0 : Int32) (H : Heap) (locs : List Loc) (ls : Array Slot), zp_Loader_bringIn_b44 Po Px u x1 y0 → lv_has ls 3 [(0, .ref (g.2.1 0)), (1, .int x1)] → va_P g.1 xx_cls (zz_W g u) H → va_D A (zz_W g u) → va_S A s.heap H locs → W p l e (xx_rmc 5 112 10 50) s m args below meth c H locs 0 0 (xw_MQ g.1 (zz_T g) (zz_W g) Po Px A below args s 10 50) (F0 m 44 ls [.int y0]) := by
  have hx := C.1
  have hb := C.2.1
  have hown := C.2.2.2.1
  have hts := C.2.2.2.2.1
  intro u x1 y0 H locs ls hF hl hP hD hS
  unfold zp_Loader_bringIn_b44 at hF
  refine lv_istore_n hx hb zd_Loader_bringIn_44 rfl hl (by decide) rfl (fun ls hl => ?_)
  refine lv_aload_n hx hb zd_Loader_bringIn_45 rfl (lv_at hl 1 rfl) ?_
  refine xx_get C ki_Loader hK hP 0 rfl rfl 6 (by decide) kw_193 rfl rfl zd_Loader_bringIn_46 ?_
  obtain ⟨v2, u1, eu1, hF⟩ := hF
  refine xx_callV (cells1 := 0) (slots1 := 0) (n := 0) (As := []) (rest := []) C (zc_Report_hasFault l g u v2 u1 eu1) ⟨kw_593, kw_590, kw_591, kw_592, kw_8⟩ ⟨by decide +kernel, by decide +kernel, by decide +kernel⟩ rfl ⟨Nat.le_of_ble_eq_true rfl, Nat.le_of_ble_eq_true rfl⟩ 13 rfl rfl hl.1 rfl (Nat.le_of_ble_eq_true rfl) hA hK hP hD hS ⟨by decide, by decide⟩ rfl rfl rfl zd_Loader_bringIn_49 (fun H locs hP hD hS => ?_)
  refine lv_if_eq (tgt := 57) hx hb zd_Loader_bringIn_52 (by decide) (fun hc => ?_) (fun hc => ?_)
  · have hF := hF.1 hc
    refine lv_aload_n hx hb zd_Loader_bringIn_57 rfl (lv_at hl 1 rfl) ?_
    refine lv_iload_n hx hb zd_Loader_bringIn_58 rfl (lv_at hl 0 rfl) ?_
    obtain ⟨u3, eu3, hF⟩ := hF
    refine xx_callV (cells1 := 0) (slots1 := 0) (n := 1) (As := [.int y0]) (rest := []) C (zc_Loader_writeImage l g u1 y0 u3 eu3) ⟨kw_635, kw_632, kw_634, ks_Loader_writeImage, kw_1⟩ ⟨by decide +kernel, by decide +kernel, by decide +kernel⟩ rfl ⟨Nat.le_of_ble_eq_true rfl, Nat.le_of_ble_eq_true rfl⟩ 0 rfl rfl hl.1 rfl (Nat.le_of_ble_eq_true rfl) hA hK hP hD hS ⟨by decide, by decide⟩ rfl rfl rfl zd_Loader_bringIn_59 (fun H locs hP hD hS => ?_)
    refine lv_aload_n hx hb zd_Loader_bringIn_62 rfl (lv_at hl 1 rfl) ?_
    refine lv_iload_n hx hb zd_Loader_bringIn_63 rfl (lv_at hl 2 rfl) ?_
    refine lv_iload_n hx hb zd_Loader_bringIn_64 rfl (lv_at hl 0 rfl) ?_
    have hF := xw_cq_e hF
    refine xw_callR (n := 2) (As := [.int x1, .int y0]) (rest := []) C CW (zc_Loader_enter l g u3 x1 y0 _ _ hF) ⟨kw_665, kw_662, kw_664, ks_Loader_enter, kw_1⟩ ⟨by decide +kernel, by decide +kernel, by decide +kernel⟩ rfl ⟨Nat.le_of_ble_eq_true rfl, Nat.le_of_ble_eq_true rfl⟩ 0 rfl rfl hl.1 rfl (Nat.le_of_ble_eq_true rfl) hA hK hP hD hS ⟨by decide, by decide⟩ zd_Loader_bringIn_65 (fun rv u4 H locs hPo hP hD hS => ?_)
    obtain ⟨v5, rfl, hF⟩ := hPo
    exact xw_qret (x := v5) C (by decide) (by decide) hF hK hP hD hS zd_Loader_bringIn_68
  · have hF := hF.2 hc
    refine lv_null hx hb zd_Loader_bringIn_55 ?_
    exact xw_qret (x := none) C (by decide) (by decide) hF hK hP hD hS zd_Loader_bringIn_56
set_option maxHeartbeats 4000000 in
set_option maxRecDepth 100000 in
theorem zc_Loader_bringIn (l : Launch) (g : xx_G) (u : zz_S) (x1 : Int32) (Po : Option Value → zz_S → Prop) (Px : String → zz_S → Prop) (hF : zp_Loader_bringIn Po Px u x1) : xw_M l g.1 (zz_T g) (zz_W g) ky_Loader_bringIn kb_Loader_bringIn 3 (some (.object "ModuleLoader$LoadedModule")) (xx_rmc 5 112 10 50) [.ref (g.2.1 0), .int x1] u Po Px := by
  refine xw_body (by decide) (Nat.le_of_ble_eq_true rfl) ?_
  intro p e s m args below meth c A ls C CW hin hK hl hA hP hD hS
  have hx := C.1
  have hb := C.2.1
  have hown := C.2.2.2.1
  have hts := C.2.2.2.2.1
  have hl : lv_has ls 3 [(0, .ref (g.2.1 0)), (1, .int x1)] := hl
  unfold zp_Loader_bringIn at hF
  refine lv_aload_n hx hb zd_Loader_bringIn_0 rfl (lv_at hl 0 rfl) ?_
  refine xx_get C ki_Loader hK hP 0 rfl rfl 3 (by decide) kw_190 rfl rfl zd_Loader_bringIn_1 ?_
  obtain ⟨v2, u1, eu1, hF⟩ := hF
  refine xx_callV (cells1 := 0) (slots1 := 0) (n := 0) (As := []) (rest := []) C (zc_ModuleFile_read l g u v2 u1 eu1) ⟨kw_505, kw_502, kw_503, kw_504, kw_5⟩ ⟨by decide +kernel, by decide +kernel, by decide +kernel⟩ rfl ⟨Nat.le_of_ble_eq_true rfl, Nat.le_of_ble_eq_true rfl⟩ 8 rfl rfl hl.1 rfl (Nat.le_of_ble_eq_true rfl) hA hK hP hD hS ⟨by decide, by decide⟩ rfl rfl rfl zd_Loader_bringIn_4 (fun H locs hP hD hS => ?_)
  refine lv_if_ne (tgt := 21) hx hb zd_Loader_bringIn_7 (by decide) (fun hc => ?_) (fun hc => ?_)
  · have hF := hF.2 hc
    refine lv_aload_n hx hb zd_Loader_bringIn_21 rfl (lv_at hl 0 rfl) ?_
    refine lv_iload_n hx hb zd_Loader_bringIn_22 rfl (lv_at hl 1 rfl) ?_
    obtain ⟨u3, eu3, hF⟩ := hF
    refine xx_callV (cells1 := 0) (slots1 := 0) (n := 1) (As := [.int x1]) (rest := []) C (zc_Loader_checkNames l g u1 x1 u3 eu3) ⟨kw_576, kw_573, kw_575, ks_Loader_checkNames, kw_1⟩ ⟨by decide +kernel, by decide +kernel, by decide +kernel⟩ rfl ⟨Nat.le_of_ble_eq_true rfl, Nat.le_of_ble_eq_true rfl⟩ 0 rfl rfl hl.1 rfl (Nat.le_of_ble_eq_true rfl) hA hK hP hD hS ⟨by decide, by decide⟩ rfl rfl rfl zd_Loader_bringIn_23 (fun H locs hP hD hS => ?_)
    refine lv_aload_n hx hb zd_Loader_bringIn_26 rfl (lv_at hl 0 rfl) ?_
    refine xx_get C ki_Loader hK hP 0 rfl rfl 6 (by decide) kw_193 rfl rfl zd_Loader_bringIn_27 ?_
    obtain ⟨v5, u4, eu4, hF⟩ := hF
    refine xx_callV (cells1 := 0) (slots1 := 0) (n := 0) (As := []) (rest := []) C (zc_Report_hasFault l g u3 v5 u4 eu4) ⟨kw_593, kw_590, kw_591, kw_592, kw_8⟩ ⟨by decide +kernel, by decide +kernel, by decide +kernel⟩ rfl ⟨Nat.le_of_ble_eq_true rfl, Nat.le_of_ble_eq_true rfl⟩ 13 rfl rfl hl.1 rfl (Nat.le_of_ble_eq_true rfl) hA hK hP hD hS ⟨by decide, by decide⟩ rfl rfl rfl zd_Loader_bringIn_30 (fun H locs hP hD hS => ?_)
    refine lv_if_eq (tgt := 40) hx hb zd_Loader_bringIn_33 (by decide) (fun hc => ?_) (fun hc => ?_)
    · have hF := hF.1 hc
      refine lv_aload_n hx hb zd_Loader_bringIn_40 rfl (lv_at hl 0 rfl) ?_
      obtain ⟨v7, u6, eu6, hF⟩ := hF
      refine xx_callV (cells1 := 0) (slots1 := 0) (n := 0) (As := []) (rest := []) C (zc_Loader_findRoom l g u4 v7 u6 eu6) ⟨kw_602, kw_599, kw_601, ks_Loader_findRoom, kw_1⟩ ⟨by decide +kernel, by decide +kernel, by decide +kernel⟩ rfl ⟨Nat.le_of_ble_eq_true rfl, Nat.le_of_ble_eq_true rfl⟩ 0 rfl rfl hl.1 rfl (Nat.le_of_ble_eq_true rfl) hA hK hP hD hS ⟨by decide, by decide⟩ rfl rfl rfl zd_Loader_bringIn_41 (fun H locs hP hD hS => ?_)
      exact zv_Loader_bringIn_b44 C CW hin hA hK u6 x1 v7 _ _ _ hF (lv_sub hl [0, 1] rfl) hP hD hS
    · have hF := hF.2 hc
      refine lv_iconst (v := (-1 : Int32)) hx hb zd_Loader_bringIn_36 (by decide) ?_
      refine lv_goto (tgt := 44) hx hb zd_Loader_bringIn_37 (by decide) ?_
      exact zv_Loader_bringIn_b44 C CW hin hA hK u4 x1 (-1 : Int32) _ _ _ hF (lv_sub hl [0, 1] rfl) hP hD hS
  · have hF := hF.1 hc
    refine lv_aload_n hx hb zd_Loader_bringIn_10 rfl (lv_at hl 0 rfl) ?_
    refine xx_get C ki_Loader hK hP 0 rfl rfl 6 (by decide) kw_193 rfl rfl zd_Loader_bringIn_11 ?_
    refine lv_iconst (v := (1 : Int32)) hx hb zd_Loader_bringIn_14 (by decide) ?_
    refine lv_iconst (v := (-1 : Int32)) hx hb zd_Loader_bringIn_15 (by decide) ?_
    obtain ⟨u8, eu8, hF⟩ := hF
    refine xx_callV (cells1 := 0) (slots1 := 0) (n := 2) (As := [.int (1 : Int32), .int (-1 : Int32)]) (rest := []) C (zc_Report_blame l g u1 (1 : Int32) (-1 : Int32) u8 eu8) ⟨kw_572, kw_569, kw_570, kw_571, kw_8⟩ ⟨by decide +kernel, by decide +kernel, by decide +kernel⟩ rfl ⟨Nat.le_of_ble_eq_true rfl, Nat.le_of_ble_eq_true rfl⟩ 13 rfl rfl hl.1 rfl (Nat.le_of_ble_eq_true rfl) hA hK hP hD hS ⟨by decide, by decide⟩ rfl rfl rfl zd_Loader_bringIn_16 (fun H locs hP hD hS => ?_)
    refine lv_null hx hb zd_Loader_bringIn_19 ?_
    exact xw_qret (x := none) C (by decide) (by decide) hF hK hP hD hS zd_Loader_bringIn_20
