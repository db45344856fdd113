set_option maxRecDepth 100000 in
theorem kw_1032 : Cond.code ky_Model_fresh kb_Model_fresh 1 none ∈ xx_tb := xx_in (List.mem_append_right _ (List.mem_of_getElem? (i := 1032) (by rfl))) (by decide +kernel)
theorem kw_1029 : Cond.methodLink "ModuleLoaderModel" 155 ky_Model_fresh ∈ xx_tb := xx_in (List.mem_append_right _ (List.mem_of_getElem? (i := 1029) (by decide +kernel))) (by decide +kernel)
theorem kw_1031 : Cond.instanceMethod ky_Model_fresh ∈ xx_tb := xx_in (List.mem_append_right _ (List.mem_of_getElem? (i := 1031) (by decide +kernel))) (by decide +kernel)
theorem ks_Model_fresh : Cond.selects "ModuleLoaderModel" ky_Model_fresh ky_Model_fresh ∈ xx_tb := xx_in (List.mem_append_left _ (by decide +kernel)) (by decide +kernel)
set_option maxRecDepth 100000 in
theorem kw_1140 : Cond.code ky_Model_isNeeded kb_Model_isNeeded 4 (some .boolean) ∈ xx_tb := xx_in (List.mem_append_right _ (List.mem_of_getElem? (i := 1140) (by rfl))) (by decide +kernel)
theorem kw_1137 : Cond.methodLink "ModuleLoaderModel" 188 ky_Model_isNeeded ∈ xx_tb := xx_in (List.mem_append_right _ (List.mem_of_getElem? (i := 1137) (by decide +kernel))) (by decide +kernel)
theorem kw_1139 : Cond.instanceMethod ky_Model_isNeeded ∈ xx_tb := xx_in (List.mem_append_right _ (List.mem_of_getElem? (i := 1139) (by decide +kernel))) (by decide +kernel)
theorem ks_Model_isNeeded : Cond.selects "ModuleLoaderModel" ky_Model_isNeeded ky_Model_isNeeded ∈ xx_tb := xx_in (List.mem_append_left _ (by decide +kernel)) (by decide +kernel)
theorem qd_Model_unload_0 : decode kb_Model_unload 0 = .ok (.aload_n 0, 1) := by decide +kernel
theorem qd_Model_unload_1 : decode kb_Model_unload 1 = .ok (.iload_n 1, 1) := by decide +kernel
theorem qd_Model_unload_2 : decode kb_Model_unload 2 = .ok (.invokevirtual 161, 3) := by decide +kernel
theorem qd_Model_unload_5 : decode kb_Model_unload 5 = .ok (.istore_n 3, 1) := by decide +kernel
theorem qd_Model_unload_6 : decode kb_Model_unload 6 = .ok (.aload_n 0, 1) := by decide +kernel
theorem qd_Model_unload_7 : decode kb_Model_unload 7 = .ok (.iload_n 3, 1) := by decide +kernel
theorem qd_Model_unload_8 : decode kb_Model_unload 8 = .ok (.ifCond .lt (14), 3) := by decide +kernel
theorem qd_Model_unload_11 : decode kb_Model_unload 11 = .ok (.iload_n 2, 1) := by decide +kernel
theorem qd_Model_unload_12 : decode kb_Model_unload 12 = .ok (.ifCond .lt (10), 3) := by decide +kernel
theorem qd_Model_unload_15 : decode kb_Model_unload 15 = .ok (.iload_n 2, 1) := by decide +kernel
theorem qd_Model_unload_16 : decode kb_Model_unload 16 = .ok (.sipush (2000), 3) := by decide +kernel
theorem qd_Model_unload_19 : decode kb_Model_unload 19 = .ok (.if_icmp .le (7), 3) := by decide +kernel
theorem qd_Model_unload_22 : decode kb_Model_unload 22 = .ok (.iconst 1, 1) := by decide +kernel
theorem qd_Model_unload_23 : decode kb_Model_unload 23 = .ok (.goto (4), 3) := by decide +kernel
theorem qd_Model_unload_26 : decode kb_Model_unload 26 = .ok (.iconst 0, 1) := by decide +kernel
theorem qd_Model_unload_27 : decode kb_Model_unload 27 = .ok (.putfield 57, 3) := by decide +kernel
theorem qd_Model_unload_30 : decode kb_Model_unload 30 = .ok (.aload_n 0, 1) := by decide +kernel
theorem qd_Model_unload_31 : decode kb_Model_unload 31 = .ok (.getfield 57, 3) := by decide +kernel
theorem qd_Model_unload_34 : decode kb_Model_unload 34 = .ok (.ifCond .le (4), 3) := by decide +kernel
theorem qd_Model_unload_37 : decode kb_Model_unload 37 = .ok (.return_, 1) := by decide +kernel
theorem qd_Model_unload_38 : decode kb_Model_unload 38 = .ok (.aload_n 0, 1) := by decide +kernel
theorem qd_Model_unload_39 : decode kb_Model_unload 39 = .ok (.invokevirtual 155, 3) := by decide +kernel
theorem qd_Model_unload_42 : decode kb_Model_unload 42 = .ok (.aload_n 0, 1) := by decide +kernel
theorem qd_Model_unload_43 : decode kb_Model_unload 43 = .ok (.iload_n 3, 1) := by decide +kernel
theorem qd_Model_unload_44 : decode kb_Model_unload 44 = .ok (.invokevirtual 188, 3) := by decide +kernel
theorem qd_Model_unload_47 : decode kb_Model_unload 47 = .ok (.ifCond .eq (14), 3) := by decide +kernel
theorem qd_Model_unload_50 : decode kb_Model_unload 50 = .ok (.aload_n 0, 1) := by decide +kernel
theorem qd_Model_unload_51 : decode kb_Model_unload 51 = .ok (.bipush (11), 2) := by decide +kernel
theorem qd_Model_unload_53 : decode kb_Model_unload 53 = .ok (.iconst (-1), 1) := by decide +kernel
theorem qd_Model_unload_54 : decode kb_Model_unload 54 = .ok (.invokevirtual 139, 3) := by decide +kernel
theorem qd_Model_unload_57 : decode kb_Model_unload 57 = .ok (.pop, 1) := by decide +kernel
theorem qd_Model_unload_58 : decode kb_Model_unload 58 = .ok (.goto (56), 3) := by decide +kernel
theorem qd_Model_unload_61 : decode kb_Model_unload 61 = .ok (.aload_n 0, 1) := by decide +kernel
theorem qd_Model_unload_62 : decode kb_Model_unload 62 = .ok (.getfield 41, 3) := by decide +kernel
theorem qd_Model_unload_65 : decode kb_Model_unload 65 = .ok (.iload_n 3, 1) := by decide +kernel
theorem qd_Model_unload_66 : decode kb_Model_unload 66 = .ok (.iaload, 1) := by decide +kernel
theorem qd_Model_unload_67 : decode kb_Model_unload 67 = .ok (.iconst (-1), 1) := by decide +kernel
theorem qd_Model_unload_68 : decode kb_Model_unload 68 = .ok (.if_icmp .eq (46), 3) := by decide +kernel
theorem qd_Model_unload_71 : decode kb_Model_unload 71 = .ok (.aload_n 0, 1) := by decide +kernel
theorem qd_Model_unload_72 : decode kb_Model_unload 72 = .ok (.aload_n 0, 1) := by decide +kernel
theorem qd_Model_unload_73 : decode kb_Model_unload 73 = .ok (.getfield 32, 3) := by decide +kernel
theorem qd_Model_unload_76 : decode kb_Model_unload 76 = .ok (.iload_n 3, 1) := by decide +kernel
theorem qd_Model_unload_77 : decode kb_Model_unload 77 = .ok (.iaload, 1) := by decide +kernel
theorem qd_Model_unload_78 : decode kb_Model_unload 78 = .ok (.aload_n 0, 1) := by decide +kernel
theorem qd_Model_unload_79 : decode kb_Model_unload 79 = .ok (.getfield 41, 3) := by decide +kernel
theorem qd_Model_unload_82 : decode kb_Model_unload 82 = .ok (.iload_n 3, 1) := by decide +kernel
theorem qd_Model_unload_83 : decode kb_Model_unload 83 = .ok (.iaload, 1) := by decide +kernel
theorem qd_Model_unload_84 : decode kb_Model_unload 84 = .ok (.iadd, 1) := by decide +kernel
theorem qd_Model_unload_85 : decode kb_Model_unload 85 = .ok (.iconst 0, 1) := by decide +kernel
theorem qd_Model_unload_86 : decode kb_Model_unload 86 = .ok (.iconst 0, 1) := by decide +kernel
theorem qd_Model_unload_87 : decode kb_Model_unload 87 = .ok (.iload_n 2, 1) := by decide +kernel
theorem qd_Model_unload_88 : decode kb_Model_unload 88 = .ok (.invokevirtual 180, 3) := by decide +kernel
theorem qd_Model_unload_91 : decode kb_Model_unload 91 = .ok (.ifCond .ne (23), 3) := by decide +kernel
theorem qd_Model_unload_94 : decode kb_Model_unload 94 = .ok (.aload_n 0, 1) := by decide +kernel
theorem qd_Model_unload_95 : decode kb_Model_unload 95 = .ok (.aload_n 0, 1) := by decide +kernel
theorem qd_Model_unload_96 : decode kb_Model_unload 96 = .ok (.getfield 146, 3) := by decide +kernel
theorem qd_Model_unload_99 : decode kb_Model_unload 99 = .ok (.ifCond .le (8), 3) := by decide +kernel
theorem qd_Model_unload_102 : decode kb_Model_unload 102 = .ok (.bipush (8), 2) := by decide +kernel
theorem qd_Model_unload_104 : decode kb_Model_unload 104 = .ok (.goto (5), 3) := by decide +kernel
theorem qd_Model_unload_107 : decode kb_Model_unload 107 = .ok (.bipush (9), 2) := by decide +kernel
theorem qd_Model_unload_109 : decode kb_Model_unload 109 = .ok (.iconst (-1), 1) := by decide +kernel
theorem qd_Model_unload_110 : decode kb_Model_unload 110 = .ok (.invokevirtual 139, 3) := by decide +kernel
theorem qd_Model_unload_113 : decode kb_Model_unload 113 = .ok (.pop, 1) := by decide +kernel
theorem qd_Model_unload_114 : decode kb_Model_unload 114 = .ok (.aload_n 0, 1) := by decide +kernel
theorem qd_Model_unload_115 : decode kb_Model_unload 115 = .ok (.aload_n 0, 1) := by decide +kernel
theorem qd_Model_unload_116 : decode kb_Model_unload 116 = .ok (.getfield 136, 3) := by decide +kernel
theorem qd_Model_unload_119 : decode kb_Model_unload 119 = .ok (.ifCond .le (7), 3) := by decide +kernel
theorem qd_Model_unload_122 : decode kb_Model_unload 122 = .ok (.iconst 2, 1) := by decide +kernel
theorem qd_Model_unload_123 : decode kb_Model_unload 123 = .ok (.goto (4), 3) := by decide +kernel
theorem qd_Model_unload_126 : decode kb_Model_unload 126 = .ok (.iconst 0, 1) := by decide +kernel
theorem qd_Model_unload_127 : decode kb_Model_unload 127 = .ok (.putfield 57, 3) := by decide +kernel
theorem qd_Model_unload_130 : decode kb_Model_unload 130 = .ok (.aload_n 0, 1) := by decide +kernel
theorem qd_Model_unload_131 : decode kb_Model_unload 131 = .ok (.getfield 136, 3) := by decide +kernel
theorem qd_Model_unload_134 : decode kb_Model_unload 134 = .ok (.ifCond .ne (8), 3) := by decide +kernel
theorem qd_Model_unload_137 : decode kb_Model_unload 137 = .ok (.aload_n 0, 1) := by decide +kernel
theorem qd_Model_unload_138 : decode kb_Model_unload 138 = .ok (.iload_n 3, 1) := by decide +kernel
theorem qd_Model_unload_139 : decode kb_Model_unload 139 = .ok (.invokevirtual 184, 3) := by decide +kernel
theorem qd_Model_unload_142 : decode kb_Model_unload 142 = .ok (.return_, 1) := by decide +kernel
def qf_Model_unload_b142 (u : qm_S) : Option (qm_S) := some u
def qf_Model_unload_b127 (u : qm_S) (x3 : Int32) (y1 : Int32) : Option (qm_S) := xx_nm (va_up u.1 0 y1, u.2) fun u1 => if (u1.1 17) = 0 then ((qf_Model_remove u1 x3).bind fun u2 => qf_Model_unload_b142 u2) else (qf_Model_unload_b142 u1)
def qf_Model_unload_b114 (u : qm_S) (x3 : Int32) : Option (qm_S) := if (u.1 17) ≤ 0 then (qf_Model_unload_b127 u x3 (0 : Int32)) else (qf_Model_unload_b127 u x3 (2 : Int32))
def qf_Model_unload_b109 (u : qm_S) (x3 : Int32) (y1 : Int32) : Option (qm_S) := xx_b2 (qf_Model_wrong u y1 (-1 : Int32)) fun v2 u1 => qf_Model_unload_b114 u1 x3
def qf_Model_unload_b27 (u : qm_S) (x2 : Int32) (x3 : Int32) (y1 : Int32) : Option (qm_S) := xx_nm (va_up u.1 0 y1, u.2) fun u1 => if (u1.1 0) ≤ 0 then ((qf_Model_fresh u1).bind fun u2 => xx_b2 (qf_Model_isNeeded u2 x3) fun v4 u3 => if v4 = 0 then ((xx_ag (u3.2 11) 12 x3).bind fun v5 => if v5 = (-1 : Int32) then (qf_Model_unload_b114 u3 x3) else ((xx_ag (u3.2 8) 12 x3).bind fun v6 => (xx_ag (u3.2 11) 12 x3).bind fun v7 => xx_b2 (qf_Model_runs u3 (v6 + v7) (0 : Int32) (0 : Int32) x2) fun v9 u8 => if v9 = 0 then (if (u8.1 19) ≤ 0 then (qf_Model_unload_b109 u8 x3 (9 : Int32)) else (qf_Model_unload_b109 u8 x3 (8 : Int32))) else (qf_Model_unload_b114 u8 x3))) else (xx_b2 (qf_Model_wrong u3 (11 : Int32) (-1 : Int32)) fun v11 u10 => qf_Model_unload_b114 u10 x3)) else (some u1)
def qf_Model_unload_b22 (u : qm_S) (x2 : Int32) (x3 : Int32) : Option (qm_S) := qf_Model_unload_b27 u x2 x3 (1 : Int32)
def qf_Model_unload (u : qm_S) (x1 : Int32) (x2 : Int32) : Option (qm_S) := xx_b2 (qf_Model_numberOf u x1) fun v2 u1 => if v2 < 0 then (qf_Model_unload_b22 u1 x2 v2) else (if x2 < 0 then (qf_Model_unload_b22 u1 x2 v2) else (if x2 ≤ (2000 : Int32) then (qf_Model_unload_b27 u1 x2 v2 (0 : Int32)) else (qf_Model_unload_b22 u1 x2 v2)))
set_option maxHeartbeats 4000000 in
set_option maxRecDepth 100000 in
theorem qw_Model_unload_b142 {p : Program} {l : Launch} {e : Env} {s : State} {m : MethodId} {args : Array Value} {below : List Frame} {meth : Method} {c : Code} {A : Nat → Prop} {g : xx_G} {u9 : qm_S} (C : xx_C p s m args meth c kb_Model_unload 4 kr_Model none) (hA : ∀ q, s.heap.size ≤ q → A q) (hK : va_K g.1 xx_cls (qm_T g) s) : ∀ (u : qm_S) (H : Heap) (locs : List Loc) (ls : Array Slot), qf_Model_unload_b142 u = some u9 → lv_has ls 4 [] → va_P g.1 xx_cls (qm_W g u) H → va_D A (qm_W g u) → va_S A s.heap H locs → W p l e (xx_rm 4 104) s m args below meth c H locs 0 0 (MQ below (xx_Q g.1 (qm_T g) (qm_W g) none u9 A) args s 0 0 A) (F0 m 142 ls []) := by
  have hx := C.1
  have hb := C.2.1
  have hown := C.2.2.2.1
  have hts := C.2.2.2.2.1
  intro u H locs ls hF hl hP hD hS
  unfold qf_Model_unload_b142 at hF
  exact xx_vret C hF hK hP hD hS qd_Model_unload_142
set_option maxHeartbeats 4000000 in
set_option maxRecDepth 100000 in
theorem qw_Model_unload_b127 {p : Program} {l : Launch} {e : Env} {s : State} {m : MethodId} {args : Array Value} {below : List Frame} {meth : Method} {c : Code} {A : Nat → Prop} {g : xx_G} {u9 : qm_S} (C : xx_C p s m args meth c kb_Model_unload 4 kr_Model none) (hA : ∀ q, s.heap.size ≤ q → A q) (hK : va_K g.1 xx_cls (qm_T g) s) : ∀ (u : qm_S) (x3 : Int32) (y1 : Int32) (H : Heap) (locs : List Loc) (ls : Array Slot), qf_Model_unload_b127 u x3 y1 = some u9 → lv_has ls 4 [(0, .ref (g.2.1 0)), (3, .int x3)] → va_P g.1 xx_cls (qm_W g u) H → va_D A (qm_W g u) → va_S A s.heap H locs → W p l e (xx_rm 4 104) s m args below meth c H locs 0 0 (MQ below (xx_Q g.1 (qm_T g) (qm_W g) none u9 A) args s 0 0 A) (F0 m 127 ls [.int y1, .ref (g.2.1 0)]) := by
  have hx := C.1
  have hb := C.2.1
  have hown := C.2.2.2.1
  have hts := C.2.2.2.2.1
  intro u x3 y1 H locs ls hF hl hP hD hS
  unfold qf_Model_unload_b127 at hF
  obtain ⟨u1, eu1, hF⟩ := xx_nm_some hF
  refine xx_put (ws1 := qm_W g u1) C ki_Model kt_Model ko_Model kn_Model hK hP hD hS 0 rfl rfl 0 (by decide) kw_873 rfl rfl rfl rfl (Nat.le_of_ble_eq_true rfl) (by rw [eu1]; rfl) qd_Model_unload_127 (fun H locs hP hD hS => ?_)
  refine lv_aload_n hx hb qd_Model_unload_130 rfl (lv_at hl 0 rfl) ?_
  refine xx_get C ki_Model hK hP 0 rfl rfl 17 (by decide) kw_890 rfl rfl qd_Model_unload_131 ?_
  refine lv_if_ne (tgt := 142) hx hb qd_Model_unload_134 (by decide) (fun hc => ?_) (fun hc => ?_)
  · have hF := xx_in' hc hF
    exact qw_Model_unload_b142 C hA hK  u1 _ _ _ hF (lv_sub hl [] rfl) hP hD hS
  · have hF := xx_ip hc hF
    refine lv_aload_n hx hb qd_Model_unload_137 rfl (lv_at hl 0 rfl) ?_
    refine lv_iload_n hx hb qd_Model_unload_138 rfl (lv_at hl 1 rfl) ?_
    obtain ⟨u2, eu2, hF⟩ := xx_ob hF
    refine xx_callV (n := 1) (As := [.int x3]) (rest := []) C (qc_Model_remove l g u1 x3 u2 eu2) ⟨kw_1132, kw_1129, kw_1131, ks_Model_remove, kw_9⟩ ⟨by decide +kernel, by decide +kernel, by decide +kernel⟩ rfl ⟨Nat.le_of_ble_eq_true rfl, Nat.le_of_ble_eq_true rfl⟩ 0 rfl rfl hl.1 rfl (Nat.le_of_ble_eq_true rfl) hA hK hP hD hS ⟨Nat.le_refl _, Nat.le_refl _⟩ rfl rfl rfl qd_Model_unload_139 (fun H locs hP hD hS => ?_)
    exact qw_Model_unload_b142 C hA hK  u2 _ _ _ hF (lv_sub hl [] rfl) hP hD hS
set_option maxHeartbeats 4000000 in
set_option maxRecDepth 100000 in
theorem qw_Model_unload_b114 {p : Program} {l : Launch} {e : Env} {s : State} {m : MethodId} {args : Array Value} {below : List Frame} {meth : Method} {c : Code} {A : Nat → Prop} {g : xx_G} {u9 : qm_S} (C : xx_C p s m args meth c kb_Model_unload 4 kr_Model none) (hA : ∀ q, s.heap.size ≤ q → A q) (hK : va_K g.1 xx_cls (qm_T g) s) : ∀ (u : qm_S) (x3 : Int32) (H : Heap) (locs : List Loc) (ls : Array Slot), qf_Model_unload_b114 u x3 = some u9 → lv_has ls 4 [(0, .ref (g.2.1 0)), (3, .int x3)] → va_P g.1 xx_cls (qm_W g u) H → va_D A (qm_W g u) → va_S A s.heap H locs → W p l e (xx_rm 4 104) s m args below meth c H locs 0 0 (MQ below (xx_Q g.1 (qm_T g) (qm_W g) none u9 A) args s 0 0 A) (F0 m 114 ls []) := by
  have hx := C.1
  have hb := C.2.1
  have hown := C.2.2.2.1
  have hts := C.2.2.2.2.1
  intro u x3 H locs ls hF hl hP hD hS
  unfold qf_Model_unload_b114 at hF
  refine lv_aload_n hx hb qd_Model_unload_114 rfl (lv_at hl 0 rfl) ?_
  refine lv_aload_n hx hb qd_Model_unload_115 rfl (lv_at hl 0 rfl) ?_
  refine xx_get C ki_Model hK hP 0 rfl rfl 17 (by decide) kw_890 rfl rfl qd_Model_unload_116 ?_
  refine lv_if_le (tgt := 126) hx hb qd_Model_unload_119 (by decide) (fun hc => ?_) (fun hc => ?_)
  · have hF := xx_ip hc hF
    refine lv_iconst (v := (0 : Int32)) hx hb qd_Model_unload_126 (by decide) ?_
    exact qw_Model_unload_b127 C hA hK  u x3 (0 : Int32) _ _ _ hF (lv_sub hl [0, 1] rfl) hP hD hS
  · have hF := xx_in' hc hF
    refine lv_iconst (v := (2 : Int32)) hx hb qd_Model_unload_122 (by decide) ?_
    refine lv_goto (tgt := 127) hx hb qd_Model_unload_123 (by decide) ?_
    exact qw_Model_unload_b127 C hA hK  u x3 (2 : Int32) _ _ _ hF (lv_sub hl [0, 1] rfl) hP hD hS
set_option maxHeartbeats 4000000 in
set_option maxRecDepth 100000 in
theorem qw_Model_unload_b109 {p : Program} {l : Launch} {e : Env} {s : State} {m : MethodId} {args : Array Value} {below : List Frame} {meth : Method} {c : Code} {A : Nat → Prop} {g : xx_G} {u9 : qm_S} (C : xx_C p s m args meth c kb_Model_unload 4 kr_Model none) (hA : ∀ q, s.heap.size ≤ q → A q) (hK : va_K g.1 xx_cls (qm_T g) s) : ∀ (u : qm_S) (x3 : Int32) (y1 : Int32) (H : Heap) (locs : List Loc) (ls : Array Slot), qf_Model_unload_b109 u x3 y1 = some u9 → lv_has ls 4 [(0, .ref (g.2.1 0)), (3, .int x3)] → va_P g.1 xx_cls (qm_W g u) H → va_D A (qm_W g u) → va_S A s.heap H locs → W p l e (xx_rm 4 104) s m args below meth c H locs 0 0 (MQ below (xx_Q g.1 (qm_T g) (qm_W g) none u9 A) args s 0 0 A) (F0 m 109 ls [.int y1, .ref (g.2.1 0)]) := by
  have hx := C.1
  have hb := C.2.1
  have hown := C.2.2.2.1
  have hts := C.2.2.2.2.1
  intro u x3 y1 H locs ls hF hl hP hD hS
  unfold qf_Model_unload_b109 at hF
  refine lv_iconst (v := (-1 : Int32)) hx hb qd_Model_unload_109 (by decide) ?_
  obtain ⟨v2, u1, eu1, hF⟩ := xx_b2_some hF
  refine xx_callV (n := 2) (As := [.int y1, .int (-1 : Int32)]) (rest := []) C (qc_Model_wrong l g u y1 (-1 : Int32) v2 u1 eu1) ⟨kw_1060, kw_1057, kw_1059, ks_Model_wrong, kw_9⟩ ⟨by decide +kernel, by decide +kernel, by decide +kernel⟩ rfl ⟨Nat.le_of_ble_eq_true rfl, Nat.le_of_ble_eq_true rfl⟩ 0 rfl rfl hl.1 rfl (Nat.le_of_ble_eq_true rfl) hA hK hP hD hS ⟨Nat.le_refl _, Nat.le_refl _⟩ rfl rfl rfl qd_Model_unload_110 (fun H locs hP hD hS => ?_)
  refine lv_pop hx hb qd_Model_unload_113 rfl ?_
  exact qw_Model_unload_b114 C hA hK  u1 x3 _ _ _ hF (lv_sub hl [0, 1] rfl) hP hD hS
set_option maxHeartbeats 4000000 in
set_option maxRecDepth 100000 in
theorem qw_Model_unload_b27 {p : Program} {l : Launch} {e : Env} {s : State} {m : MethodId} {args : Array Value} {below : List Frame} {meth : Method} {c : Code} {A : Nat → Prop} {g : xx_G} {u9 : qm_S} (C : xx_C p s m args meth c kb_Model_unload 4 kr_Model none) (hA : ∀ q, s.heap.size ≤ q → A q) (hK : va_K g.1 xx_cls (qm_T g) s) : ∀ (u : qm_S) (x2 : Int32) (x3 : Int32) (y1 : Int32) (H : Heap) (locs : List Loc) (ls : Array Slot), qf_Model_unload_b27 u x2 x3 y1 = some u9 → lv_has ls 4 [(0, .ref (g.2.1 0)), (2, .int x2), (3, .int x3)] → va_P g.1 xx_cls (qm_W g u) H → va_D A (qm_W g u) → va_S A s.heap H locs → W p l e (xx_rm 4 104) s m args below meth c H locs 0 0 (MQ below (xx_Q g.1 (qm_T g) (qm_W g) none u9 A) args s 0 0 A) (F0 m 27 ls [.int y1, .ref (g.2.1 0)]) := by
  have hx := C.1
  have hb := C.2.1
  have hown := C.2.2.2.1
  have hts := C.2.2.2.2.1
  intro u x2 x3 y1 H locs ls hF hl hP hD hS
  unfold qf_Model_unload_b27 at hF
  obtain ⟨u1, eu1, hF⟩ := xx_nm_some hF
  refine xx_put (ws1 := qm_W g u1) C ki_Model kt_Model ko_Model kn_Model hK hP hD hS 0 rfl rfl 0 (by decide) kw_873 rfl rfl rfl rfl (Nat.le_of_ble_eq_true rfl) (by rw [eu1]; rfl) qd_Model_unload_27 (fun H locs hP hD hS => ?_)
  refine lv_aload_n hx hb qd_Model_unload_30 rfl (lv_at hl 0 rfl) ?_
  refine xx_get C ki_Model hK hP 0 rfl rfl 0 (by decide) kw_873 rfl rfl qd_Model_unload_31 ?_
  refine lv_if_le (tgt := 38) hx hb qd_Model_unload_34 (by decide) (fun hc => ?_) (fun hc => ?_)
  · have hF := xx_ip hc hF
    refine lv_aload_n hx hb qd_Model_unload_38 rfl (lv_at hl 0 rfl) ?_
    obtain ⟨u2, eu2, hF⟩ := xx_ob hF
    refine xx_callV (n := 0) (As := []) (rest := []) C (qc_Model_fresh l g u1 u2 eu2) ⟨kw_1032, kw_1029, kw_1031, ks_Model_fresh, kw_9⟩ ⟨by decide +kernel, by decide +kernel, by decide +kernel⟩ rfl ⟨Nat.le_of_ble_eq_true rfl, Nat.le_of_ble_eq_true rfl⟩ 0 rfl rfl hl.1 rfl (Nat.le_of_ble_eq_true rfl) hA hK hP hD hS ⟨Nat.le_refl _, Nat.le_refl _⟩ rfl rfl rfl qd_Model_unload_39 (fun H locs hP hD hS => ?_)
    refine lv_aload_n hx hb qd_Model_unload_42 rfl (lv_at hl 0 rfl) ?_
    refine lv_iload_n hx hb qd_Model_unload_43 rfl (lv_at hl 2 rfl) ?_
    obtain ⟨v4, u3, eu3, hF⟩ := xx_b2_some hF
    refine xx_callV (n := 1) (As := [.int x3]) (rest := []) C (qc_Model_isNeeded l g u2 x3 v4 u3 eu3) ⟨kw_1140, kw_1137, kw_1139, ks_Model_isNeeded, kw_9⟩ ⟨by decide +kernel, by decide +kernel, by decide +kernel⟩ rfl ⟨Nat.le_of_ble_eq_true rfl, Nat.le_of_ble_eq_true rfl⟩ 0 rfl rfl hl.1 rfl (Nat.le_of_ble_eq_true rfl) hA hK hP hD hS ⟨Nat.le_refl _, Nat.le_refl _⟩ rfl rfl rfl qd_Model_unload_44 (fun H locs hP hD hS => ?_)
    refine lv_if_eq (tgt := 61) hx hb qd_Model_unload_47 (by decide) (fun hc => ?_) (fun hc => ?_)
    · have hF := xx_ip hc hF
      refine lv_aload_n hx hb qd_Model_unload_61 rfl (lv_at hl 0 rfl) ?_
      refine xx_get C ki_Model hK hP 0 rfl rfl 13 (by decide) kw_886 rfl rfl qd_Model_unload_62 ?_
      refine lv_iload_n hx hb qd_Model_unload_65 rfl (lv_at hl 2 rfl) ?_
      obtain ⟨v5, ev5, hF⟩ := xx_ob hF
      refine xx_iald C hK hP 11 0 rfl rfl ev5 qd_Model_unload_66 ?_
      refine lv_iconst (v := (-1 : Int32)) hx hb qd_Model_unload_67 (by decide) ?_
      refine lv_icmp_eq (tgt := 114) hx hb qd_Model_unload_68 (by decide) (fun hc => ?_) (fun hc => ?_)
      · have hF := xx_ip hc hF
        exact qw_Model_unload_b114 C hA hK  u3 x3 _ _ _ hF (lv_sub hl [0, 2] rfl) hP hD hS
      · have hF := xx_in' hc hF
        refine lv_aload_n hx hb qd_Model_unload_71 rfl (lv_at hl 0 rfl) ?_
        refine lv_aload_n hx hb qd_Model_unload_72 rfl (lv_at hl 0 rfl) ?_
        refine xx_get C ki_Model hK hP 0 rfl rfl 10 (by decide) kw_883 rfl rfl qd_Model_unload_73 ?_
        refine lv_iload_n hx hb qd_Model_unload_76 rfl (lv_at hl 2 rfl) ?_
        obtain ⟨v6, ev6, hF⟩ := xx_ob hF
        refine xx_iald C hK hP 8 0 rfl rfl ev6 qd_Model_unload_77 ?_
        refine lv_aload_n hx hb qd_Model_unload_78 rfl (lv_at hl 0 rfl) ?_
        refine xx_get C ki_Model hK hP 0 rfl rfl 13 (by decide) kw_886 rfl rfl qd_Model_unload_79 ?_
        refine lv_iload_n hx hb qd_Model_unload_82 rfl (lv_at hl 2 rfl) ?_
        obtain ⟨v7, ev7, hF⟩ := xx_ob hF
        refine xx_iald C hK hP 11 0 rfl rfl ev7 qd_Model_unload_83 ?_
        refine lv_iadd hx hb qd_Model_unload_84 ?_
        refine lv_iconst (v := (0 : Int32)) hx hb qd_Model_unload_85 (by decide) ?_
        refine lv_iconst (v := (0 : Int32)) hx hb qd_Model_unload_86 (by decide) ?_
        refine lv_iload_n hx hb qd_Model_unload_87 rfl (lv_at hl 1 rfl) ?_
        obtain ⟨v9, u8, eu8, hF⟩ := xx_b2_some hF
        refine xx_callV (n := 4) (As := [.int (v6 + v7), .int (0 : Int32), .int (0 : Int32), .int x2]) (rest := []) C (qc_Model_runs l g u3 (v6 + v7) (0 : Int32) (0 : Int32) x2 v9 u8 eu8) ⟨kw_1096, kw_1093, kw_1095, ks_Model_runs, kw_9⟩ ⟨by decide +kernel, by decide +kernel, by decide +kernel⟩ rfl ⟨Nat.le_of_ble_eq_true rfl, Nat.le_of_ble_eq_true rfl⟩ 0 rfl rfl hl.1 rfl (Nat.le_of_ble_eq_true rfl) hA hK hP hD hS ⟨Nat.le_refl _, Nat.le_refl _⟩ rfl rfl rfl qd_Model_unload_88 (fun H locs hP hD hS => ?_)
        refine lv_if_ne (tgt := 114) hx hb qd_Model_unload_91 (by decide) (fun hc => ?_) (fun hc => ?_)
        · have hF := xx_in' hc hF
          exact qw_Model_unload_b114 C hA hK  u8 x3 _ _ _ hF (lv_sub hl [0, 2] rfl) hP hD hS
        · have hF := xx_ip hc hF
          refine lv_aload_n hx hb qd_Model_unload_94 rfl (lv_at hl 0 rfl) ?_
          refine lv_aload_n hx hb qd_Model_unload_95 rfl (lv_at hl 0 rfl) ?_
          refine xx_get C ki_Model hK hP 0 rfl rfl 19 (by decide) kw_892 rfl rfl qd_Model_unload_96 ?_
          refine lv_if_le (tgt := 107) hx hb qd_Model_unload_99 (by decide) (fun hc => ?_) (fun hc => ?_)
          · have hF := xx_ip hc hF
            refine lv_bipush (v := (9 : Int32)) hx hb qd_Model_unload_107 (by decide) ?_
            exact qw_Model_unload_b109 C hA hK  u8 x3 (9 : Int32) _ _ _ hF (lv_sub hl [0, 2] rfl) hP hD hS
          · have hF := xx_in' hc hF
            refine lv_bipush (v := (8 : Int32)) hx hb qd_Model_unload_102 (by decide) ?_
            refine lv_goto (tgt := 109) hx hb qd_Model_unload_104 (by decide) ?_
            exact qw_Model_unload_b109 C hA hK  u8 x3 (8 : Int32) _ _ _ hF (lv_sub hl [0, 2] rfl) hP hD hS
    · have hF := xx_in' hc hF
      refine lv_aload_n hx hb qd_Model_unload_50 rfl (lv_at hl 0 rfl) ?_
      refine lv_bipush (v := (11 : Int32)) hx hb qd_Model_unload_51 (by decide) ?_
      refine lv_iconst (v := (-1 : Int32)) hx hb qd_Model_unload_53 (by decide) ?_
      obtain ⟨v11, u10, eu10, hF⟩ := xx_b2_some hF
      refine xx_callV (n := 2) (As := [.int (11 : Int32), .int (-1 : Int32)]) (rest := []) C (qc_Model_wrong l g u3 (11 : Int32) (-1 : Int32) v11 u10 eu10) ⟨kw_1060, kw_1057, kw_1059, ks_Model_wrong, kw_9⟩ ⟨by decide +kernel, by decide +kernel, by decide +kernel⟩ rfl ⟨Nat.le_of_ble_eq_true rfl, Nat.le_of_ble_eq_true rfl⟩ 0 rfl rfl hl.1 rfl (Nat.le_of_ble_eq_true rfl) hA hK hP hD hS ⟨Nat.le_refl _, Nat.le_refl _⟩ rfl rfl rfl qd_Model_unload_54 (fun H locs hP hD hS => ?_)
      refine lv_pop hx hb qd_Model_unload_57 rfl ?_
      refine lv_goto (tgt := 114) hx hb qd_Model_unload_58 (by decide) ?_
      exact qw_Model_unload_b114 C hA hK  u10 x3 _ _ _ hF (lv_sub hl [0, 2] rfl) hP hD hS
  · have hF := xx_in' hc hF
    exact xx_vret C hF hK hP hD hS qd_Model_unload_37
set_option maxHeartbeats 4000000 in
set_option maxRecDepth 100000 in
theorem qw_Model_unload_b22 {p : Program} {l : Launch} {e : Env} {s : State} {m : MethodId} {args : Array Value} {below : List Frame} {meth : Method} {c : Code} {A : Nat → Prop} {g : xx_G} {u9 : qm_S} (C : xx_C p s m args meth c kb_Model_unload 4 kr_Model none) (hA : ∀ q, s.heap.size ≤ q → A q) (hK : va_K g.1 xx_cls (qm_T g) s) : ∀ (u : qm_S) (x2 : Int32) (x3 : Int32) (H : Heap) (locs : List Loc) (ls : Array Slot), qf_Model_unload_b22 u x2 x3 = some u9 → lv_has ls 4 [(0, .ref (g.2.1 0)), (2, .int x2), (3, .int x3)] → va_P g.1 xx_cls (qm_W g u) H → va_D A (qm_W g u) → va_S A s.heap H locs → W p l e (xx_rm 4 104) s m args below meth c H locs 0 0 (MQ below (xx_Q g.1 (qm_T g) (qm_W g) none u9 A) args s 0 0 A) (F0 m 22 ls [.ref (g.2.1 0)]) := by
  have hx := C.1
  have hb := C.2.1
  have hown := C.2.2.2.1
  have hts := C.2.2.2.2.1
  intro u x2 x3 H locs ls hF hl hP hD hS
  unfold qf_Model_unload_b22 at hF
  refine lv_iconst (v := (1 : Int32)) hx hb qd_Model_unload_22 (by decide) ?_
  refine lv_goto (tgt := 27) hx hb qd_Model_unload_23 (by decide) ?_
  exact qw_Model_unload_b27 C hA hK  u x2 x3 (1 : Int32) _ _ _ hF (lv_sub hl [0, 1, 2] rfl) hP hD hS
set_option maxHeartbeats 4000000 in
set_option maxRecDepth 100000 in
theorem qc_Model_unload (l : Launch) (g : xx_G) (u : qm_S) (x1 : Int32) (x2 : Int32) (u9 : qm_S) (hF : qf_Model_unload u x1 x2 = some u9) : xx_M l g.1 (qm_T g) (qm_W g) ky_Model_unload kb_Model_unload 4 none (xx_rm 4 104) [.ref (g.2.1 0), .int x1, .int x2] u none u9 := by
  refine xx_body (by decide) (Nat.le_of_ble_eq_true rfl) ?_
  intro p e s m args below meth c A ls C hin hK hl hA hP hD hS
  have hx := C.1
  have hb := C.2.1
  have hown := C.2.2.2.1
  have hts := C.2.2.2.2.1
  have hl : lv_has ls 4 [(0, .ref (g.2.1 0)), (1, .int x1), (2, .int x2)] := hl
  unfold qf_Model_unload at hF
  refine lv_aload_n hx hb qd_Model_unload_0 rfl (lv_at hl 0 rfl) ?_
  refine lv_iload_n hx hb qd_Model_unload_1 rfl (lv_at hl 1 rfl) ?_
  obtain ⟨v2, u1, eu1, hF⟩ := xx_b2_some hF
  refine xx_callV (n := 1) (As := [.int x1]) (rest := []) C (qc_Model_numberOf l g u x1 v2 u1 eu1) ⟨kw_1064, kw_1061, kw_1063, ks_Model_numberOf, kw_9⟩ ⟨by decide +kernel, by decide +kernel, by decide +kernel⟩ rfl ⟨Nat.le_of_ble_eq_true rfl, Nat.le_of_ble_eq_true rfl⟩ 0 rfl rfl hl.1 rfl (Nat.le_of_ble_eq_true rfl) hA hK hP hD hS ⟨Nat.le_refl _, Nat.le_refl _⟩ rfl rfl rfl qd_Model_unload_2 (fun H locs hP hD hS => ?_)
  refine lv_istore_n hx hb qd_Model_unload_5 rfl hl (by decide) rfl (fun ls hl => ?_)
  refine lv_aload_n hx hb qd_Model_unload_6 rfl (lv_at hl 1 rfl) ?_
  refine lv_iload_n hx hb qd_Model_unload_7 rfl (lv_at hl 0 rfl) ?_
  refine lv_if_lt (tgt := 22) hx hb qd_Model_unload_8 (by decide) (fun hc => ?_) (fun hc => ?_)
  · have hF := xx_ip hc hF
    exact qw_Model_unload_b22 C hA hK  u1 x2 v2 _ _ _ hF (lv_sub hl [1, 3, 0] rfl) hP hD hS
  · have hF := xx_in' hc hF
    refine lv_iload_n hx hb qd_Model_unload_11 rfl (lv_at hl 3 rfl) ?_
    refine lv_if_lt (tgt := 22) hx hb qd_Model_unload_12 (by decide) (fun hc => ?_) (fun hc => ?_)
    · have hF := xx_ip hc hF
      exact qw_Model_unload_b22 C hA hK  u1 x2 v2 _ _ _ hF (lv_sub hl [1, 3, 0] rfl) hP hD hS
    · have hF := xx_in' hc hF
      refine lv_iload_n hx hb qd_Model_unload_15 rfl (lv_at hl 3 rfl) ?_
      refine lv_sipush (v := (2000 : Int32)) hx hb qd_Model_unload_16 (by decide) ?_
      refine lv_icmp_le (tgt := 26) hx hb qd_Model_unload_19 (by decide) (fun hc => ?_) (fun hc => ?_)
      · have hF := xx_ip hc hF
        refine lv_iconst (v := (0 : Int32)) hx hb qd_Model_unload_26 (by decide) ?_
        exact qw_Model_unload_b27 C hA hK  u1 x2 v2 (0 : Int32) _ _ _ hF (lv_sub hl [1, 3, 0] rfl) hP hD hS
      · have hF := xx_in' hc hF
        exact qw_Model_unload_b22 C hA hK  u1 x2 v2 _ _ _ hF (lv_sub hl [1, 3, 0] rfl) hP hD hS
theorem qd_Model_call_0 : decode kb_Model_call 0 = .ok (.aload_n 0, 1) := by decide +kernel
theorem qd_Model_call_1 : decode kb_Model_call 1 = .ok (.iload_n 1, 1) := by decide +kernel
theorem qd_Model_call_2 : decode kb_Model_call 2 = .ok (.invokevirtual 86, 3) := by decide +kernel
theorem qd_Model_call_5 : decode kb_Model_call 5 = .ok (.istore 5, 2) := by decide +kernel
theorem qd_Model_call_7 : decode kb_Model_call 7 = .ok (.aload_n 0, 1) := by decide +kernel
theorem qd_Model_call_8 : decode kb_Model_call 8 = .ok (.iload 5, 2) := by decide +kernel
theorem qd_Model_call_10 : decode kb_Model_call 10 = .ok (.ifCond .lt (16), 3) := by decide +kernel
theorem qd_Model_call_13 : decode kb_Model_call 13 = .ok (.iload 4, 2) := by decide +kernel
theorem qd_Model_call_15 : decode kb_Model_call 15 = .ok (.ifCond .lt (11), 3) := by decide +kernel
theorem qd_Model_call_18 : decode kb_Model_call 18 = .ok (.iload 4, 2) := by decide +kernel
theorem qd_Model_call_20 : decode kb_Model_call 20 = .ok (.sipush (2000), 3) := by decide +kernel
theorem qd_Model_call_23 : decode kb_Model_call 23 = .ok (.if_icmp .le (7), 3) := by decide +kernel
theorem qd_Model_call_26 : decode kb_Model_call 26 = .ok (.iconst 1, 1) := by decide +kernel
theorem qd_Model_call_27 : decode kb_Model_call 27 = .ok (.goto (4), 3) := by decide +kernel
theorem qd_Model_call_30 : decode kb_Model_call 30 = .ok (.iconst 0, 1) := by decide +kernel
theorem qd_Model_call_31 : decode kb_Model_call 31 = .ok (.putfield 57, 3) := by decide +kernel
theorem qd_Model_call_34 : decode kb_Model_call 34 = .ok (.aload_n 0, 1) := by decide +kernel
theorem qd_Model_call_35 : decode kb_Model_call 35 = .ok (.getfield 57, 3) := by decide +kernel
theorem qd_Model_call_38 : decode kb_Model_call 38 = .ok (.ifCond .le (5), 3) := by decide +kernel
theorem qd_Model_call_41 : decode kb_Model_call 41 = .ok (.iconst 0, 1) := by decide +kernel
theorem qd_Model_call_42 : decode kb_Model_call 42 = .ok (.ireturn, 1) := by decide +kernel
theorem qd_Model_call_43 : decode kb_Model_call 43 = .ok (.aload_n 0, 1) := by decide +kernel
theorem qd_Model_call_44 : decode kb_Model_call 44 = .ok (.invokevirtual 155, 3) := by decide +kernel
theorem qd_Model_call_47 : decode kb_Model_call 47 = .ok (.aload_n 0, 1) := by decide +kernel
theorem qd_Model_call_48 : decode kb_Model_call 48 = .ok (.aload_n 0, 1) := by decide +kernel
theorem qd_Model_call_49 : decode kb_Model_call 49 = .ok (.getfield 19, 3) := by decide +kernel
theorem qd_Model_call_52 : decode kb_Model_call 52 = .ok (.iload 5, 2) := by decide +kernel
theorem qd_Model_call_54 : decode kb_Model_call 54 = .ok (.iaload, 1) := by decide +kernel
theorem qd_Model_call_55 : decode kb_Model_call 55 = .ok (.iload_n 2, 1) := by decide +kernel
theorem qd_Model_call_56 : decode kb_Model_call 56 = .ok (.iload_n 3, 1) := by decide +kernel
theorem qd_Model_call_57 : decode kb_Model_call 57 = .ok (.iload 4, 2) := by decide +kernel
theorem qd_Model_call_59 : decode kb_Model_call 59 = .ok (.invokevirtual 180, 3) := by decide +kernel
theorem qd_Model_call_62 : decode kb_Model_call 62 = .ok (.ifCond .ne (23), 3) := by decide +kernel
theorem qd_Model_call_65 : decode kb_Model_call 65 = .ok (.aload_n 0, 1) := by decide +kernel
theorem qd_Model_call_66 : decode kb_Model_call 66 = .ok (.aload_n 0, 1) := by decide +kernel
theorem qd_Model_call_67 : decode kb_Model_call 67 = .ok (.getfield 146, 3) := by decide +kernel
theorem qd_Model_call_70 : decode kb_Model_call 70 = .ok (.ifCond .le (8), 3) := by decide +kernel
theorem qd_Model_call_73 : decode kb_Model_call 73 = .ok (.bipush (8), 2) := by decide +kernel
theorem qd_Model_call_75 : decode kb_Model_call 75 = .ok (.goto (5), 3) := by decide +kernel
theorem qd_Model_call_78 : decode kb_Model_call 78 = .ok (.bipush (9), 2) := by decide +kernel
theorem qd_Model_call_80 : decode kb_Model_call 80 = .ok (.iconst (-1), 1) := by decide +kernel
theorem qd_Model_call_81 : decode kb_Model_call 81 = .ok (.invokevirtual 139, 3) := by decide +kernel
theorem qd_Model_call_84 : decode kb_Model_call 84 = .ok (.pop, 1) := by decide +kernel
theorem qd_Model_call_85 : decode kb_Model_call 85 = .ok (.aload_n 0, 1) := by decide +kernel
theorem qd_Model_call_86 : decode kb_Model_call 86 = .ok (.aload_n 0, 1) := by decide +kernel
theorem qd_Model_call_87 : decode kb_Model_call 87 = .ok (.getfield 136, 3) := by decide +kernel
theorem qd_Model_call_90 : decode kb_Model_call 90 = .ok (.ifCond .le (7), 3) := by decide +kernel
theorem qd_Model_call_93 : decode kb_Model_call 93 = .ok (.iconst 2, 1) := by decide +kernel
theorem qd_Model_call_94 : decode kb_Model_call 94 = .ok (.goto (4), 3) := by decide +kernel
theorem qd_Model_call_97 : decode kb_Model_call 97 = .ok (.iconst 0, 1) := by decide +kernel
theorem qd_Model_call_98 : decode kb_Model_call 98 = .ok (.putfield 57, 3) := by decide +kernel
theorem qd_Model_call_101 : decode kb_Model_call 101 = .ok (.aload_n 0, 1) := by decide +kernel
theorem qd_Model_call_102 : decode kb_Model_call 102 = .ok (.getfield 136, 3) := by decide +kernel
theorem qd_Model_call_105 : decode kb_Model_call 105 = .ok (.ifCond .le (7), 3) := by decide +kernel
theorem qd_Model_call_108 : decode kb_Model_call 108 = .ok (.iconst 0, 1) := by decide +kernel
theorem qd_Model_call_109 : decode kb_Model_call 109 = .ok (.goto (7), 3) := by decide +kernel
theorem qd_Model_call_112 : decode kb_Model_call 112 = .ok (.aload_n 0, 1) := by decide +kernel
theorem qd_Model_call_113 : decode kb_Model_call 113 = .ok (.getfield 152, 3) := by decide +kernel
theorem qd_Model_call_116 : decode kb_Model_call 116 = .ok (.ireturn, 1) := by decide +kernel
def qf_Model_call_b116 (u : qm_S) (y0 : Int32) : Option (Int32 × qm_S) := some (y0, u)
def qf_Model_call_b98 (u : qm_S) (y1 : Int32) : Option (Int32 × qm_S) := xx_nm (va_up u.1 0 y1, u.2) fun u1 => if (u1.1 17) ≤ 0 then (qf_Model_call_b116 u1 (u1.1 21)) else (qf_Model_call_b116 u1 (0 : Int32))
def qf_Model_call_b85 (u : qm_S) : Option (Int32 × qm_S) := if (u.1 17) ≤ 0 then (qf_Model_call_b98 u (0 : Int32)) else (qf_Model_call_b98 u (2 : Int32))
def qf_Model_call_b80 (u : qm_S) (y1 : Int32) : Option (Int32 × qm_S) := xx_b2 (qf_Model_wrong u y1 (-1 : Int32)) fun v2 u1 => qf_Model_call_b85 u1
def qf_Model_call_b31 (u : qm_S) (x2 : Int32) (x3 : Int32) (x4 : Int32) (x5 : Int32) (y1 : Int32) : Option (Int32 × qm_S) := xx_nm (va_up u.1 0 y1, u.2) fun u1 => if (u1.1 0) ≤ 0 then ((qf_Model_fresh u1).bind fun u2 => (xx_ag (u2.2 4) 40 x5).bind fun v3 => xx_b2 (qf_Model_runs u2 v3 x2 x3 x4) fun v5 u4 => if v5 = 0 then (if (u4.1 19) ≤ 0 then (qf_Model_call_b80 u4 (9 : Int32)) else (qf_Model_call_b80 u4 (8 : Int32))) else (qf_Model_call_b85 u4)) else (some ((0 : Int32), u1))
def qf_Model_call_b26 (u : qm_S) (x2 : Int32) (x3 : Int32) (x4 : Int32) (x5 : Int32) : Option (Int32 × qm_S) := qf_Model_call_b31 u x2 x3 x4 x5 (1 : Int32)
def qf_Model_call (u : qm_S) (x1 : Int32) (x2 : Int32) (x3 : Int32) (x4 : Int32) : Option (Int32 × qm_S) := xx_b2 (qf_Model_find u x1) fun v2 u1 => if v2 < 0 then (qf_Model_call_b26 u1 x2 x3 x4 v2) else (if x4 < 0 then (qf_Model_call_b26 u1 x2 x3 x4 v2) else (if x4 ≤ (2000 : Int32) then (qf_Model_call_b31 u1 x2 x3 x4 v2 (0 : Int32)) else (qf_Model_call_b26 u1 x2 x3 x4 v2)))
set_option maxHeartbeats 4000000 in
set_option maxRecDepth 100000 in
theorem qw_Model_call_b116 {p : Program} {l : Launch} {e : Env} {s : State} {m : MethodId} {args : Array Value} {below : List Frame} {meth : Method} {c : Code} {A : Nat → Prop} {g : xx_G} {r : Int32} {u9 : qm_S} (C : xx_C p s m args meth c kb_Model_call 6 kr_Model (some .int)) (hA : ∀ q, s.heap.size ≤ q → A q) (hK : va_K g.1 xx_cls (qm_T g) s) : ∀ (u : qm_S) (y0 : Int32) (H : Heap) (locs : List Loc) (ls : Array Slot), qf_Model_call_b116 u y0 = some (r, u9) → lv_has ls 6 [] → va_P g.1 xx_cls (qm_W g u) H → va_D A (qm_W g u) → va_S A s.heap H locs → W p l e (xx_rm 4 104) s m args below meth c H locs 0 0 (MQ below (xx_Q g.1 (qm_T g) (qm_W g) (some (.int r)) u9 A) args s 0 0 A) (F0 m 116 ls [.int y0]) := by
  have hx := C.1
  have hb := C.2.1
  have hown := C.2.2.2.1
  have hts := C.2.2.2.2.1
  intro u y0 H locs ls hF hl hP hD hS
  unfold qf_Model_call_b116 at hF
  exact xx_iret C hF hK hP hD hS qd_Model_call_116
set_option maxHeartbeats 4000000 in
set_option maxRecDepth 100000 in
theorem qw_Model_call_b98 {p : Program} {l : Launch} {e : Env} {s : State} {m : MethodId} {args : Array Value} {below : List Frame} {meth : Method} {c : Code} {A : Nat → Prop} {g : xx_G} {r : Int32} {u9 : qm_S} (C : xx_C p s m args meth c kb_Model_call 6 kr_Model (some .int)) (hA : ∀ q, s.heap.size ≤ q → A q) (hK : va_K g.1 xx_cls (qm_T g) s) : ∀ (u : qm_S) (y1 : Int32) (H : Heap) (locs : List Loc) (ls : Array Slot), qf_Model_call_b98 u y1 = some (r, u9) → lv_has ls 6 [(0, .ref (g.2.1 0))] → va_P g.1 xx_cls (qm_W g u) H → va_D A (qm_W g u) → va_S A s.heap H locs → W p l e (xx_rm 4 104) s m args below meth c H locs 0 0 (MQ below (xx_Q g.1 (qm_T g) (qm_W g) (some (.int r)) u9 A) args s 0 0 A) (F0 m 98 ls [.int y1, .ref (g.2.1 0)]) := by
  have hx := C.1
  have hb := C.2.1
  have hown := C.2.2.2.1
  have hts := C.2.2.2.2.1
  intro u y1 H locs ls hF hl hP hD hS
  unfold qf_Model_call_b98 at hF
  obtain ⟨u1, eu1, hF⟩ := xx_nm_some hF
  refine xx_put (ws1 := qm_W g u1) C ki_Model kt_Model ko_Model kn_Model hK hP hD hS 0 rfl rfl 0 (by decide) kw_873 rfl rfl rfl rfl (Nat.le_of_ble_eq_true rfl) (by rw [eu1]; rfl) qd_Model_call_98 (fun H locs hP hD hS => ?_)
  refine lv_aload_n hx hb qd_Model_call_101 rfl (lv_at hl 0 rfl) ?_
  refine xx_get C ki_Model hK hP 0 rfl rfl 17 (by decide) kw_890 rfl rfl qd_Model_call_102 ?_
  refine lv_if_le (tgt := 112) hx hb qd_Model_call_105 (by decide) (fun hc => ?_) (fun hc => ?_)
  · have hF := xx_ip hc hF
    refine lv_aload_n hx hb qd_Model_call_112 rfl (lv_at hl 0 rfl) ?_
    refine xx_get C ki_Model hK hP 0 rfl rfl 21 (by decide) kw_894 rfl rfl qd_Model_call_113 ?_
    exact qw_Model_call_b116 C hA hK  u1 (u1.1 21) _ _ _ hF (lv_sub hl [] rfl) hP hD hS
  · have hF := xx_in' hc hF
    refine lv_iconst (v := (0 : Int32)) hx hb qd_Model_call_108 (by decide) ?_
    refine lv_goto (tgt := 116) hx hb qd_Model_call_109 (by decide) ?_
    exact qw_Model_call_b116 C hA hK  u1 (0 : Int32) _ _ _ hF (lv_sub hl [] rfl) hP hD hS
set_option maxHeartbeats 4000000 in
set_option maxRecDepth 100000 in
theorem qw_Model_call_b85 {p : Program} {l : Launch} {e : Env} {s : State} {m : MethodId} {args : Array Value} {below : List Frame} {meth : Method} {c : Code} {A : Nat → Prop} {g : xx_G} {r : Int32} {u9 : qm_S} (C : xx_C p s m args meth c kb_Model_call 6 kr_Model (some .int)) (hA : ∀ q, s.heap.size ≤ q → A q) (hK : va_K g.1 xx_cls (qm_T g) s) : ∀ (u : qm_S) (H : Heap) (locs : List Loc) (ls : Array Slot), qf_Model_call_b85 u = some (r, u9) → lv_has ls 6 [(0, .ref (g.2.1 0))] → va_P g.1 xx_cls (qm_W g u) H → va_D A (qm_W g u) → va_S A s.heap H locs → W p l e (xx_rm 4 104) s m args below meth c H locs 0 0 (MQ below (xx_Q g.1 (qm_T g) (qm_W g) (some (.int r)) u9 A) args s 0 0 A) (F0 m 85 ls []) := by
  have hx := C.1
  have hb := C.2.1
  have hown := C.2.2.2.1
  have hts := C.2.2.2.2.1
  intro u H locs ls hF hl hP hD hS
  unfold qf_Model_call_b85 at hF
  refine lv_aload_n hx hb qd_Model_call_85 rfl (lv_at hl 0 rfl) ?_
  refine lv_aload_n hx hb qd_Model_call_86 rfl (lv_at hl 0 rfl) ?_
  refine xx_get C ki_Model hK hP 0 rfl rfl 17 (by decide) kw_890 rfl rfl qd_Model_call_87 ?_
  refine lv_if_le (tgt := 97) hx hb qd_Model_call_90 (by decide) (fun hc => ?_) (fun hc => ?_)
  · have hF := xx_ip hc hF
    refine lv_iconst (v := (0 : Int32)) hx hb qd_Model_call_97 (by decide) ?_
    exact qw_Model_call_b98 C hA hK  u (0 : Int32) _ _ _ hF (lv_sub hl [0] rfl) hP hD hS
  · have hF := xx_in' hc hF
    refine lv_iconst (v := (2 : Int32)) hx hb qd_Model_call_93 (by decide) ?_
    refine lv_goto (tgt := 98) hx hb qd_Model_call_94 (by decide) ?_
    exact qw_Model_call_b98 C hA hK  u (2 : Int32) _ _ _ hF (lv_sub hl [0] rfl) hP hD hS
set_option maxHeartbeats 4000000 in
set_option maxRecDepth 100000 in
theorem qw_Model_call_b80 {p : Program} {l : Launch} {e : Env} {s : State} {m : MethodId} {args : Array Value} {below : List Frame} {meth : Method} {c : Code} {A : Nat → Prop} {g : xx_G} {r : Int32} {u9 : qm_S} (C : xx_C p s m args meth c kb_Model_call 6 kr_Model (some .int)) (hA : ∀ q, s.heap.size ≤ q → A q) (hK : va_K g.1 xx_cls (qm_T g) s) : ∀ (u : qm_S) (y1 : Int32) (H : Heap) (locs : List Loc) (ls : Array Slot), qf_Model_call_b80 u y1 = some (r, u9) → lv_has ls 6 [(0, .ref (g.2.1 0))] → va_P g.1 xx_cls (qm_W g u) H → va_D A (qm_W g u) → va_S A s.heap H locs → W p l e (xx_rm 4 104) s m args below meth c H locs 0 0 (MQ below (xx_Q g.1 (qm_T g) (qm_W g) (some (.int r)) u9 A) args s 0 0 A) (F0 m 80 ls [.int y1, .ref (g.2.1 0)]) := by
  have hx := C.1
  have hb := C.2.1
  have hown := C.2.2.2.1
  have hts := C.2.2.2.2.1
  intro u y1 H locs ls hF hl hP hD hS
  unfold qf_Model_call_b80 at hF
  refine lv_iconst (v := (-1 : Int32)) hx hb qd_Model_call_80 (by decide) ?_
  obtain ⟨v2, u1, eu1, hF⟩ := xx_b2_some hF
  refine xx_callV (n := 2) (As := [.int y1, .int (-1 : Int32)]) (rest := []) C (qc_Model_wrong l g u y1 (-1 : Int32) v2 u1 eu1) ⟨kw_1060, kw_1057, kw_1059, ks_Model_wrong, kw_9⟩ ⟨by decide +kernel, by decide +kernel, by decide +kernel⟩ rfl ⟨Nat.le_of_ble_eq_true rfl, Nat.le_of_ble_eq_true rfl⟩ 0 rfl rfl hl.1 rfl (Nat.le_of_ble_eq_true rfl) hA hK hP hD hS ⟨Nat.le_refl _, Nat.le_refl _⟩ rfl rfl rfl qd_Model_call_81 (fun H locs hP hD hS => ?_)
  refine lv_pop hx hb qd_Model_call_84 rfl ?_
  exact qw_Model_call_b85 C hA hK  u1 _ _ _ hF (lv_sub hl [0] rfl) hP hD hS
set_option maxHeartbeats 4000000 in
set_option maxRecDepth 100000 in
theorem qw_Model_call_b31 {p : Program} {l : Launch} {e : Env} {s : State} {m : MethodId} {args : Array Value} {below : List Frame} {meth : Method} {c : Code} {A : Nat → Prop} {g : xx_G} {r : Int32} {u9 : qm_S} (C : xx_C p s m args meth c kb_Model_call 6 kr_Model (some .int)) (hA : ∀ q, s.heap.size ≤ q → A q) (hK : va_K g.1 xx_cls (qm_T g) s) : ∀ (u : qm_S) (x2 : Int32) (x3 : Int32) (x4 : Int32) (x5 : Int32) (y1 : Int32) (H : Heap) (locs : List Loc) (ls : Array Slot), qf_Model_call_b31 u x2 x3 x4 x5 y1 = some (r, u9) → lv_has ls 6 [(0, .ref (g.2.1 0)), (2, .int x2), (3, .int x3), (4, .int x4), (5, .int x5)] → va_P g.1 xx_cls (qm_W g u) H → va_D A (qm_W g u) → va_S A s.heap H locs → W p l e (xx_rm 4 104) s m args below meth c H locs 0 0 (MQ below (xx_Q g.1 (qm_T g) (qm_W g) (some (.int r)) u9 A) args s 0 0 A) (F0 m 31 ls [.int y1, .ref (g.2.1 0)]) := by
  have hx := C.1
  have hb := C.2.1
  have hown := C.2.2.2.1
  have hts := C.2.2.2.2.1
  intro u x2 x3 x4 x5 y1 H locs ls hF hl hP hD hS
  unfold qf_Model_call_b31 at hF
  obtain ⟨u1, eu1, hF⟩ := xx_nm_some hF
  refine xx_put (ws1 := qm_W g u1) C ki_Model kt_Model ko_Model kn_Model hK hP hD hS 0 rfl rfl 0 (by decide) kw_873 rfl rfl rfl rfl (Nat.le_of_ble_eq_true rfl) (by rw [eu1]; rfl) qd_Model_call_31 (fun H locs hP hD hS => ?_)
  refine lv_aload_n hx hb qd_Model_call_34 rfl (lv_at hl 0 rfl) ?_
  refine xx_get C ki_Model hK hP 0 rfl rfl 0 (by decide) kw_873 rfl rfl qd_Model_call_35 ?_
  refine lv_if_le (tgt := 43) hx hb qd_Model_call_38 (by decide) (fun hc => ?_) (fun hc => ?_)
  · have hF := xx_ip hc hF
    refine lv_aload_n hx hb qd_Model_call_43 rfl (lv_at hl 0 rfl) ?_
    obtain ⟨u2, eu2, hF⟩ := xx_ob hF
    refine xx_callV (n := 0) (As := []) (rest := []) C (qc_Model_fresh l g u1 u2 eu2) ⟨kw_1032, kw_1029, kw_1031, ks_Model_fresh, kw_9⟩ ⟨by decide +kernel, by decide +kernel, by decide +kernel⟩ rfl ⟨Nat.le_of_ble_eq_true rfl, Nat.le_of_ble_eq_true rfl⟩ 0 rfl rfl hl.1 rfl (Nat.le_of_ble_eq_true rfl) hA hK hP hD hS ⟨Nat.le_refl _, Nat.le_refl _⟩ rfl rfl rfl qd_Model_call_44 (fun H locs hP hD hS => ?_)
    refine lv_aload_n hx hb qd_Model_call_47 rfl (lv_at hl 0 rfl) ?_
    refine lv_aload_n hx hb qd_Model_call_48 rfl (lv_at hl 0 rfl) ?_
    refine xx_get C ki_Model hK hP 0 rfl rfl 6 (by decide) kw_879 rfl rfl qd_Model_call_49 ?_
    refine lv_iload hx hb qd_Model_call_52 (lv_at hl 4 rfl) ?_
    obtain ⟨v3, ev3, hF⟩ := xx_ob hF
    refine xx_iald C hK hP 4 0 rfl rfl ev3 qd_Model_call_54 ?_
    refine lv_iload_n hx hb qd_Model_call_55 rfl (lv_at hl 1 rfl) ?_
    refine lv_iload_n hx hb qd_Model_call_56 rfl (lv_at hl 2 rfl) ?_
    refine lv_iload hx hb qd_Model_call_57 (lv_at hl 3 rfl) ?_
    obtain ⟨v5, u4, eu4, hF⟩ := xx_b2_some hF
    refine xx_callV (n := 4) (As := [.int v3, .int x2, .int x3, .int x4]) (rest := []) C (qc_Model_runs l g u2 v3 x2 x3 x4 v5 u4 eu4) ⟨kw_1096, kw_1093, kw_1095, ks_Model_runs, kw_9⟩ ⟨by decide +kernel, by decide +kernel, by decide +kernel⟩ rfl ⟨Nat.le_of_ble_eq_true rfl, Nat.le_of_ble_eq_true rfl⟩ 0 rfl rfl hl.1 rfl (Nat.le_of_ble_eq_true rfl) hA hK hP hD hS ⟨Nat.le_refl _, Nat.le_refl _⟩ rfl rfl rfl qd_Model_call_59 (fun H locs hP hD hS => ?_)
    refine lv_if_ne (tgt := 85) hx hb qd_Model_call_62 (by decide) (fun hc => ?_) (fun hc => ?_)
    · have hF := xx_in' hc hF
      exact qw_Model_call_b85 C hA hK  u4 _ _ _ hF (lv_sub hl [0] rfl) hP hD hS
    · have hF := xx_ip hc hF
      refine lv_aload_n hx hb qd_Model_call_65 rfl (lv_at hl 0 rfl) ?_
      refine lv_aload_n hx hb qd_Model_call_66 rfl (lv_at hl 0 rfl) ?_
      refine xx_get C ki_Model hK hP 0 rfl rfl 19 (by decide) kw_892 rfl rfl qd_Model_call_67 ?_
      refine lv_if_le (tgt := 78) hx hb qd_Model_call_70 (by decide) (fun hc => ?_) (fun hc => ?_)
      · have hF := xx_ip hc hF
        refine lv_bipush (v := (9 : Int32)) hx hb qd_Model_call_78 (by decide) ?_
        exact qw_Model_call_b80 C hA hK  u4 (9 : Int32) _ _ _ hF (lv_sub hl [0] rfl) hP hD hS
      · have hF := xx_in' hc hF
        refine lv_bipush (v := (8 : Int32)) hx hb qd_Model_call_73 (by decide) ?_
        refine lv_goto (tgt := 80) hx hb qd_Model_call_75 (by decide) ?_
        exact qw_Model_call_b80 C hA hK  u4 (8 : Int32) _ _ _ hF (lv_sub hl [0] rfl) hP hD hS
  · have hF := xx_in' hc hF
    refine lv_iconst (v := (0 : Int32)) hx hb qd_Model_call_41 (by decide) ?_
    exact xx_iret C hF hK hP hD hS qd_Model_call_42
set_option maxHeartbeats 4000000 in
set_option maxRecDepth 100000 in
theorem qw_Model_call_b26 {p : Program} {l : Launch} {e : Env} {s : State} {m : MethodId} {args : Array Value} {below : List Frame} {meth : Method} {c : Code} {A : Nat → Prop} {g : xx_G} {r : Int32} {u9 : qm_S} (C : xx_C p s m args meth c kb_Model_call 6 kr_Model (some .int)) (hA : ∀ q, s.heap.size ≤ q → A q) (hK : va_K g.1 xx_cls (qm_T g) s) : ∀ (u : qm_S) (x2 : Int32) (x3 : Int32) (x4 : Int32) (x5 : Int32) (H : Heap) (locs : List Loc) (ls : Array Slot), qf_Model_call_b26 u x2 x3 x4 x5 = some (r, u9) → lv_has ls 6 [(0, .ref (g.2.1 0)), (2, .int x2), (3, .int x3), (4, .int x4), (5, .int x5)] → va_P g.1 xx_cls (qm_W g u) H → va_D A (qm_W g u) → va_S A s.heap H locs → W p l e (xx_rm 4 104) s m args below meth c H locs 0 0 (MQ below (xx_Q g.1 (qm_T g) (qm_W g) (some (.int r)) u9 A) args s 0 0 A) (F0 m 26 ls [.ref (g.2.1 0)]) := by
  have hx := C.1
  have hb := C.2.1
  have hown := C.2.2.2.1
  have hts := C.2.2.2.2.1
  intro u x2 x3 x4 x5 H locs ls hF hl hP hD hS
  unfold qf_Model_call_b26 at hF
  refine lv_iconst (v := (1 : Int32)) hx hb qd_Model_call_26 (by decide) ?_
  refine lv_goto (tgt := 31) hx hb qd_Model_call_27 (by decide) ?_
  exact qw_Model_call_b31 C hA hK  u x2 x3 x4 x5 (1 : Int32) _ _ _ hF (lv_sub hl [0, 1, 2, 3, 4] rfl) hP hD hS
set_option maxHeartbeats 4000000 in
set_option maxRecDepth 100000 in
theorem qc_Model_call (l : Launch) (g : xx_G) (u : qm_S) (x1 : Int32) (x2 : Int32) (x3 : Int32) (x4 : Int32) (r : Int32) (u9 : qm_S) (hF : qf_Model_call u x1 x2 x3 x4 = some (r, u9)) : xx_M l g.1 (qm_T g) (qm_W g) ky_Model_call kb_Model_call 6 (some .int) (xx_rm 4 104) [.ref (g.2.1 0), .int x1, .int x2, .int x3, .int x4] u (some (.int r)) u9 := by
  refine xx_body (by decide) (Nat.le_of_ble_eq_true rfl) ?_
  intro p e s m args below meth c A ls C hin hK hl hA hP hD hS
  have hx := C.1
  have hb := C.2.1
  have hown := C.2.2.2.1
  have hts := C.2.2.2.2.1
  have hl : lv_has ls 6 [(0, .ref (g.2.1 0)), (1, .int x1), (2, .int x2), (3, .int x3), (4, .int x4)] := hl
  unfold qf_Model_call at hF
  refine lv_aload_n hx hb qd_Model_call_0 rfl (lv_at hl 0 rfl) ?_
  refine lv_iload_n hx hb qd_Model_call_1 rfl (lv_at hl 1 rfl) ?_
  obtain ⟨v2, u1, eu1, hF⟩ := xx_b2_some hF
  refine xx_callV (n := 1) (As := [.int x1]) (rest := []) C (qc_Model_find l g u x1 v2 u1 eu1) ⟨kw_1012, kw_1009, kw_1011, ks_Model_find, kw_9⟩ ⟨by decide +kernel, by decide +kernel, by decide +kernel⟩ rfl ⟨Nat.le_of_ble_eq_true rfl, Nat.le_of_ble_eq_true rfl⟩ 0 rfl rfl hl.1 rfl (Nat.le_of_ble_eq_true rfl) hA hK hP hD hS ⟨Nat.le_refl _, Nat.le_refl _⟩ rfl rfl rfl qd_Model_call_2 (fun H locs hP hD hS => ?_)
  refine lv_istore hx hb qd_Model_call_5 hl (by decide) rfl (fun ls hl => ?_)
  refine lv_aload_n hx hb qd_Model_call_7 rfl (lv_at hl 1 rfl) ?_
  refine lv_iload hx hb qd_Model_call_8 (lv_at hl 0 rfl) ?_
  refine lv_if_lt (tgt := 26) hx hb qd_Model_call_10 (by decide) (fun hc => ?_) (fun hc => ?_)
  · have hF := xx_ip hc hF
    exact qw_Model_call_b26 C hA hK  u1 x2 x3 x4 v2 _ _ _ hF (lv_sub hl [1, 3, 4, 5, 0] rfl) hP hD hS
  · have hF := xx_in' hc hF
    refine lv_iload hx hb qd_Model_call_13 (lv_at hl 5 rfl) ?_
    refine lv_if_lt (tgt := 26) hx hb qd_Model_call_15 (by decide) (fun hc => ?_) (fun hc => ?_)
    · have hF := xx_ip hc hF
      exact qw_Model_call_b26 C hA hK  u1 x2 x3 x4 v2 _ _ _ hF (lv_sub hl [1, 3, 4, 5, 0] rfl) hP hD hS
    · have hF := xx_in' hc hF
      refine lv_iload hx hb qd_Model_call_18 (lv_at hl 5 rfl) ?_
      refine lv_sipush (v := (2000 : Int32)) hx hb qd_Model_call_20 (by decide) ?_
      refine lv_icmp_le (tgt := 30) hx hb qd_Model_call_23 (by decide) (fun hc => ?_) (fun hc => ?_)
      · have hF := xx_ip hc hF
        refine lv_iconst (v := (0 : Int32)) hx hb qd_Model_call_30 (by decide) ?_
        exact qw_Model_call_b31 C hA hK  u1 x2 x3 x4 v2 (0 : Int32) _ _ _ hF (lv_sub hl [1, 3, 4, 5, 0] rfl) hP hD hS
      · have hF := xx_in' hc hF
        exact qw_Model_call_b26 C hA hK  u1 x2 x3 x4 v2 _ _ _ hF (lv_sub hl [1, 3, 4, 5, 0] rfl) hP hD hS
set_option maxRecDepth 100000 in
theorem kw_1036 : Cond.code ky_Model_isFile kb_Model_isFile 6 (some .boolean) ∈ xx_tb := xx_in (List.mem_append_right _ (List.mem_of_getElem? (i := 1036) (by rfl))) (by decide +kernel)
theorem kw_1033 : Cond.methodLink "ModuleLoaderModel" 158 ky_Model_isFile ∈ xx_tb := xx_in (List.mem_append_right _ (List.mem_of_getElem? (i := 1033) (by decide +kernel))) (by decide +kernel)
theorem kw_1035 : Cond.instanceMethod ky_Model_isFile ∈ xx_tb := xx_in (List.mem_append_right _ (List.mem_of_getElem? (i := 1035) (by decide +kernel))) (by decide +kernel)
theorem ks_Model_isFile : Cond.selects "ModuleLoaderModel" ky_Model_isFile ky_Model_isFile ∈ xx_tb := xx_in (List.mem_append_left _ (by decide +kernel)) (by decide +kernel)
set_option maxRecDepth 100000 in
theorem kw_1068 : Cond.code ky_Model_importsWrong kb_Model_importsWrong 3 (some .boolean) ∈ xx_tb := xx_in (List.mem_append_right _ (List.mem_of_getElem? (i := 1068) (by rfl))) (by decide +kernel)
theorem kw_1065 : Cond.methodLink "ModuleLoaderModel" 164 ky_Model_importsWrong ∈ xx_tb := xx_in (List.mem_append_right _ (List.mem_of_getElem? (i := 1065) (by decide +kernel))) (by decide +kernel)
theorem kw_1067 : Cond.instanceMethod ky_Model_importsWrong ∈ xx_tb := xx_in (List.mem_append_right _ (List.mem_of_getElem? (i := 1067) (by decide +kernel))) (by decide +kernel)
theorem ks_Model_importsWrong : Cond.selects "ModuleLoaderModel" ky_Model_importsWrong ky_Model_importsWrong ∈ xx_tb := xx_in (List.mem_append_left _ (by decide +kernel)) (by decide +kernel)
set_option maxRecDepth 100000 in
theorem kw_1072 : Cond.code ky_Model_exportsWrong kb_Model_exportsWrong 2 (some .boolean) ∈ xx_tb := xx_in (List.mem_append_right _ (List.mem_of_getElem? (i := 1072) (by rfl))) (by decide +kernel)
theorem kw_1069 : Cond.methodLink "ModuleLoaderModel" 168 ky_Model_exportsWrong ∈ xx_tb := xx_in (List.mem_append_right _ (List.mem_of_getElem? (i := 1069) (by decide +kernel))) (by decide +kernel)
theorem kw_1071 : Cond.instanceMethod ky_Model_exportsWrong ∈ xx_tb := xx_in (List.mem_append_right _ (List.mem_of_getElem? (i := 1071) (by decide +kernel))) (by decide +kernel)
theorem ks_Model_exportsWrong : Cond.selects "ModuleLoaderModel" ky_Model_exportsWrong ky_Model_exportsWrong ∈ xx_tb := xx_in (List.mem_append_left _ (by decide +kernel)) (by decide +kernel)
set_option maxRecDepth 100000 in
theorem kw_1076 : Cond.code ky_Model_room kb_Model_room 4 (some .int) ∈ xx_tb := xx_in (List.mem_append_right _ (List.mem_of_getElem? (i := 1076) (by rfl))) (by decide +kernel)
theorem kw_1073 : Cond.methodLink "ModuleLoaderModel" 171 ky_Model_room ∈ xx_tb := xx_in (List.mem_append_right _ (List.mem_of_getElem? (i := 1073) (by decide +kernel))) (by decide +kernel)
theorem kw_1075 : Cond.instanceMethod ky_Model_room ∈ xx_tb := xx_in (List.mem_append_right _ (List.mem_of_getElem? (i := 1075) (by decide +kernel))) (by decide +kernel)
theorem ks_Model_room : Cond.selects "ModuleLoaderModel" ky_Model_room ky_Model_room ∈ xx_tb := xx_in (List.mem_append_left _ (by decide +kernel)) (by decide +kernel)
set_option maxRecDepth 100000 in
theorem kw_1084 : Cond.code ky_Model_bring kb_Model_bring 7 none ∈ xx_tb := xx_in (List.mem_append_right _ (List.mem_of_getElem? (i := 1084) (by rfl))) (by decide +kernel)
theorem kw_1081 : Cond.methodLink "ModuleLoaderModel" 174 ky_Model_bring ∈ xx_tb := xx_in (List.mem_append_right _ (List.mem_of_getElem? (i := 1081) (by decide +kernel))) (by decide +kernel)
theorem kw_1083 : Cond.instanceMethod ky_Model_bring ∈ xx_tb := xx_in (List.mem_append_right _ (List.mem_of_getElem? (i := 1083) (by decide +kernel))) (by decide +kernel)
theorem ks_Model_bring : Cond.selects "ModuleLoaderModel" ky_Model_bring ky_Model_bring ∈ xx_tb := xx_in (List.mem_append_left _ (by decide +kernel)) (by decide +kernel)
theorem qd_Model_load_0 : decode kb_Model_load 0 = .ok (.aload_n 0, 1) := by decide +kernel
theorem qd_Model_load_1 : decode kb_Model_load 1 = .ok (.getfield 93, 3) := by decide +kernel
theorem qd_Model_load_4 : decode kb_Model_load 4 = .ok (.istore_n 3, 1) := by decide +kernel
theorem qd_Model_load_5 : decode kb_Model_load 5 = .ok (.aload_n 0, 1) := by decide +kernel
theorem qd_Model_load_6 : decode kb_Model_load 6 = .ok (.iload_n 1, 1) := by decide +kernel
theorem qd_Model_load_7 : decode kb_Model_load 7 = .ok (.invokestatic 83, 3) := by decide +kernel
theorem qd_Model_load_10 : decode kb_Model_load 10 = .ok (.ifCond .eq (14), 3) := by decide +kernel
theorem qd_Model_load_13 : decode kb_Model_load 13 = .ok (.iload_n 2, 1) := by decide +kernel
theorem qd_Model_load_14 : decode kb_Model_load 14 = .ok (.ifCond .lt (10), 3) := by decide +kernel
theorem qd_Model_load_17 : decode kb_Model_load 17 = .ok (.iload_n 2, 1) := by decide +kernel
theorem qd_Model_load_18 : decode kb_Model_load 18 = .ok (.sipush (2000), 3) := by decide +kernel
theorem qd_Model_load_21 : decode kb_Model_load 21 = .ok (.if_icmp .le (7), 3) := by decide +kernel
theorem qd_Model_load_24 : decode kb_Model_load 24 = .ok (.iconst 1, 1) := by decide +kernel
theorem qd_Model_load_25 : decode kb_Model_load 25 = .ok (.goto (4), 3) := by decide +kernel
theorem qd_Model_load_28 : decode kb_Model_load 28 = .ok (.iconst 0, 1) := by decide +kernel
theorem qd_Model_load_29 : decode kb_Model_load 29 = .ok (.putfield 57, 3) := by decide +kernel
theorem qd_Model_load_32 : decode kb_Model_load 32 = .ok (.aload_n 0, 1) := by decide +kernel
theorem qd_Model_load_33 : decode kb_Model_load 33 = .ok (.getfield 57, 3) := by decide +kernel
theorem qd_Model_load_36 : decode kb_Model_load 36 = .ok (.ifCond .le (5), 3) := by decide +kernel
theorem qd_Model_load_39 : decode kb_Model_load 39 = .ok (.iconst 0, 1) := by decide +kernel
theorem qd_Model_load_40 : decode kb_Model_load 40 = .ok (.ireturn, 1) := by decide +kernel
theorem qd_Model_load_41 : decode kb_Model_load 41 = .ok (.aload_n 0, 1) := by decide +kernel
theorem qd_Model_load_42 : decode kb_Model_load 42 = .ok (.iconst 0, 1) := by decide +kernel
theorem qd_Model_load_43 : decode kb_Model_load 43 = .ok (.putfield 93, 3) := by decide +kernel
theorem qd_Model_load_46 : decode kb_Model_load 46 = .ok (.aload_n 0, 1) := by decide +kernel
theorem qd_Model_load_47 : decode kb_Model_load 47 = .ok (.invokevirtual 155, 3) := by decide +kernel
theorem qd_Model_load_50 : decode kb_Model_load 50 = .ok (.aload_n 0, 1) := by decide +kernel
theorem qd_Model_load_51 : decode kb_Model_load 51 = .ok (.iconst 2, 1) := by decide +kernel
theorem qd_Model_load_52 : decode kb_Model_load 52 = .ok (.putfield 57, 3) := by decide +kernel
theorem qd_Model_load_55 : decode kb_Model_load 55 = .ok (.iconst 0, 1) := by decide +kernel
theorem qd_Model_load_56 : decode kb_Model_load 56 = .ok (.istore 4, 2) := by decide +kernel
theorem qd_Model_load_58 : decode kb_Model_load 58 = .ok (.iload 4, 2) := by decide +kernel
theorem qd_Model_load_60 : decode kb_Model_load 60 = .ok (.bipush (12), 2) := by decide +kernel
theorem qd_Model_load_62 : decode kb_Model_load 62 = .ok (.if_icmp .ge (19), 3) := by decide +kernel
theorem qd_Model_load_65 : decode kb_Model_load 65 = .ok (.aload_n 0, 1) := by decide +kernel
theorem qd_Model_load_66 : decode kb_Model_load 66 = .ok (.getfield 25, 3) := by decide +kernel
theorem qd_Model_load_69 : decode kb_Model_load 69 = .ok (.iload 4, 2) := by decide +kernel
theorem qd_Model_load_71 : decode kb_Model_load 71 = .ok (.baload, 1) := by decide +kernel
theorem qd_Model_load_72 : decode kb_Model_load 72 = .ok (.ifCond .eq (9), 3) := by decide +kernel
theorem qd_Model_load_75 : decode kb_Model_load 75 = .ok (.iinc 4 (1), 3) := by decide +kernel
theorem qd_Model_load_78 : decode kb_Model_load 78 = .ok (.goto (-20), 3) := by decide +kernel
theorem qd_Model_load_81 : decode kb_Model_load 81 = .ok (.aload_n 0, 1) := by decide +kernel
theorem qd_Model_load_82 : decode kb_Model_load 82 = .ok (.iload_n 3, 1) := by decide +kernel
theorem qd_Model_load_83 : decode kb_Model_load 83 = .ok (.invokevirtual 158, 3) := by decide +kernel
theorem qd_Model_load_86 : decode kb_Model_load 86 = .ok (.ifCond .ne (13), 3) := by decide +kernel
theorem qd_Model_load_89 : decode kb_Model_load 89 = .ok (.aload_n 0, 1) := by decide +kernel
theorem qd_Model_load_90 : decode kb_Model_load 90 = .ok (.iconst 1, 1) := by decide +kernel
theorem qd_Model_load_91 : decode kb_Model_load 91 = .ok (.iconst (-1), 1) := by decide +kernel
theorem qd_Model_load_92 : decode kb_Model_load 92 = .ok (.invokevirtual 139, 3) := by decide +kernel
theorem qd_Model_load_95 : decode kb_Model_load 95 = .ok (.pop, 1) := by decide +kernel
theorem qd_Model_load_96 : decode kb_Model_load 96 = .ok (.goto (84), 3) := by decide +kernel
theorem qd_Model_load_99 : decode kb_Model_load 99 = .ok (.aload_n 0, 1) := by decide +kernel
theorem qd_Model_load_100 : decode kb_Model_load 100 = .ok (.iload_n 1, 1) := by decide +kernel
theorem qd_Model_load_101 : decode kb_Model_load 101 = .ok (.invokevirtual 161, 3) := by decide +kernel
theorem qd_Model_load_104 : decode kb_Model_load 104 = .ok (.ifCond .ge (10), 3) := by decide +kernel
theorem qd_Model_load_107 : decode kb_Model_load 107 = .ok (.iload 4, 2) := by decide +kernel
theorem qd_Model_load_109 : decode kb_Model_load 109 = .ok (.bipush (12), 2) := by decide +kernel
theorem qd_Model_load_111 : decode kb_Model_load 111 = .ok (.if_icmp .ne (13), 3) := by decide +kernel
theorem qd_Model_load_114 : decode kb_Model_load 114 = .ok (.aload_n 0, 1) := by decide +kernel
theorem qd_Model_load_115 : decode kb_Model_load 115 = .ok (.iconst 2, 1) := by decide +kernel
theorem qd_Model_load_116 : decode kb_Model_load 116 = .ok (.iconst (-1), 1) := by decide +kernel
theorem qd_Model_load_117 : decode kb_Model_load 117 = .ok (.invokevirtual 139, 3) := by decide +kernel
theorem qd_Model_load_120 : decode kb_Model_load 120 = .ok (.pop, 1) := by decide +kernel
theorem qd_Model_load_121 : decode kb_Model_load 121 = .ok (.goto (59), 3) := by decide +kernel
theorem qd_Model_load_124 : decode kb_Model_load 124 = .ok (.aload_n 0, 1) := by decide +kernel
theorem qd_Model_load_125 : decode kb_Model_load 125 = .ok (.invokevirtual 164, 3) := by decide +kernel
theorem qd_Model_load_128 : decode kb_Model_load 128 = .ok (.ifCond .ne (52), 3) := by decide +kernel
theorem qd_Model_load_131 : decode kb_Model_load 131 = .ok (.aload_n 0, 1) := by decide +kernel
theorem qd_Model_load_132 : decode kb_Model_load 132 = .ok (.invokevirtual 168, 3) := by decide +kernel
theorem qd_Model_load_135 : decode kb_Model_load 135 = .ok (.ifCond .ne (45), 3) := by decide +kernel
theorem qd_Model_load_138 : decode kb_Model_load 138 = .ok (.aload_n 0, 1) := by decide +kernel
theorem qd_Model_load_139 : decode kb_Model_load 139 = .ok (.aload_n 0, 1) := by decide +kernel
theorem qd_Model_load_140 : decode kb_Model_load 140 = .ok (.getfield 96, 3) := by decide +kernel
theorem qd_Model_load_143 : decode kb_Model_load 143 = .ok (.bipush (15), 2) := by decide +kernel
theorem qd_Model_load_145 : decode kb_Model_load 145 = .ok (.iadd, 1) := by decide +kernel
theorem qd_Model_load_146 : decode kb_Model_load 146 = .ok (.bipush (16), 2) := by decide +kernel
theorem qd_Model_load_148 : decode kb_Model_load 148 = .ok (.idiv, 1) := by decide +kernel
theorem qd_Model_load_149 : decode kb_Model_load 149 = .ok (.invokevirtual 171, 3) := by decide +kernel
theorem qd_Model_load_152 : decode kb_Model_load 152 = .ok (.istore 5, 2) := by decide +kernel
theorem qd_Model_load_154 : decode kb_Model_load 154 = .ok (.iload 5, 2) := by decide +kernel
theorem qd_Model_load_156 : decode kb_Model_load 156 = .ok (.ifCond .ge (14), 3) := by decide +kernel
theorem qd_Model_load_159 : decode kb_Model_load 159 = .ok (.aload_n 0, 1) := by decide +kernel
theorem qd_Model_load_160 : decode kb_Model_load 160 = .ok (.bipush (6), 2) := by decide +kernel
theorem qd_Model_load_162 : decode kb_Model_load 162 = .ok (.iconst (-1), 1) := by decide +kernel
theorem qd_Model_load_163 : decode kb_Model_load 163 = .ok (.invokevirtual 139, 3) := by decide +kernel
theorem qd_Model_load_166 : decode kb_Model_load 166 = .ok (.pop, 1) := by decide +kernel
theorem qd_Model_load_167 : decode kb_Model_load 167 = .ok (.goto (13), 3) := by decide +kernel
theorem qd_Model_load_170 : decode kb_Model_load 170 = .ok (.aload_n 0, 1) := by decide +kernel
theorem qd_Model_load_171 : decode kb_Model_load 171 = .ok (.iload 4, 2) := by decide +kernel
theorem qd_Model_load_173 : decode kb_Model_load 173 = .ok (.iload_n 1, 1) := by decide +kernel
theorem qd_Model_load_174 : decode kb_Model_load 174 = .ok (.iload 5, 2) := by decide +kernel
theorem qd_Model_load_176 : decode kb_Model_load 176 = .ok (.iload_n 2, 1) := by decide +kernel
theorem qd_Model_load_177 : decode kb_Model_load 177 = .ok (.invokevirtual 174, 3) := by decide +kernel
theorem qd_Model_load_180 : decode kb_Model_load 180 = .ok (.aload_n 0, 1) := by decide +kernel
theorem qd_Model_load_181 : decode kb_Model_load 181 = .ok (.getfield 136, 3) := by decide +kernel
theorem qd_Model_load_184 : decode kb_Model_load 184 = .ok (.ifCond .le (5), 3) := by decide +kernel
theorem qd_Model_load_187 : decode kb_Model_load 187 = .ok (.iconst 0, 1) := by decide +kernel
theorem qd_Model_load_188 : decode kb_Model_load 188 = .ok (.ireturn, 1) := by decide +kernel
theorem qd_Model_load_189 : decode kb_Model_load 189 = .ok (.aload_n 0, 1) := by decide +kernel
theorem qd_Model_load_190 : decode kb_Model_load 190 = .ok (.iconst 0, 1) := by decide +kernel
theorem qd_Model_load_191 : decode kb_Model_load 191 = .ok (.putfield 57, 3) := by decide +kernel
theorem qd_Model_load_194 : decode kb_Model_load 194 = .ok (.aload_n 0, 1) := by decide +kernel
theorem qd_Model_load_195 : decode kb_Model_load 195 = .ok (.getfield 32, 3) := by decide +kernel
theorem qd_Model_load_198 : decode kb_Model_load 198 = .ok (.iload 4, 2) := by decide +kernel
theorem qd_Model_load_200 : decode kb_Model_load 200 = .ok (.iaload, 1) := by decide +kernel
theorem qd_Model_load_201 : decode kb_Model_load 201 = .ok (.ireturn, 1) := by decide +kernel
def qf_Model_load_b180 (u : qm_S) (x4 : Int32) : Option (Int32 × qm_S) := if (u.1 17) ≤ 0 then (xx_nm (va_up u.1 0 (0 : Int32), u.2) fun u1 => (xx_ag (u1.2 8) 12 x4).bind fun v2 => some (v2, u1)) else (some ((0 : Int32), u))
def qf_Model_load_b114 (u : qm_S) (x4 : Int32) : Option (Int32 × qm_S) := xx_b2 (qf_Model_wrong u (2 : Int32) (-1 : Int32)) fun v2 u1 => qf_Model_load_b180 u1 x4
def qf_Model_load_b81 (u : qm_S) (x1 : Int32) (x2 : Int32) (x3 : Int32) (x4 : Int32) : Option (Int32 × qm_S) := xx_b2 (qf_Model_isFile u x3) fun v2 u1 => if v2 = 0 then (xx_b2 (qf_Model_wrong u1 (1 : Int32) (-1 : Int32)) fun v15 u14 => qf_Model_load_b180 u14 x4) else (xx_b2 (qf_Model_numberOf u1 x1) fun v4 u3 => if 0 ≤ v4 then (qf_Model_load_b114 u3 x4) else (if x4 = (12 : Int32) then (qf_Model_load_b114 u3 x4) else (xx_b2 (qf_Model_importsWrong u3) fun v6 u5 => if v6 = 0 then (xx_b2 (qf_Model_exportsWrong u5) fun v8 u7 => if v8 = 0 then (xx_b2 (qf_Model_room u7 (((u7.1 26) + (15 : Int32)) / (16 : Int32))) fun v10 u9 => if 0 ≤ v10 then ((qf_Model_bring u9 x4 x1 v10 x2).bind fun u11 => qf_Model_load_b180 u11 x4) else (xx_b2 (qf_Model_wrong u9 (6 : Int32) (-1 : Int32)) fun v13 u12 => qf_Model_load_b180 u12 x4)) else (qf_Model_load_b180 u7 x4)) else (qf_Model_load_b180 u5 x4))))
def qf_Model_load_b58 : Nat → qm_S → Int32 → Int32 → Int32 → Int32 → Option (Int32 × qm_S)
  | 0, _, _, _, _, _ => none
  | n + 1, u, x1, x2, x3, x4 => if (12 : Int32) ≤ x4 then (qf_Model_load_b81 u x1 x2 x3 x4) else ((xx_ag (u.2 6) 12 x4).bind fun v1 => if v1 = 0 then (qf_Model_load_b81 u x1 x2 x3 x4) else (xx_nm (x4 + (1 : Int32)) fun v2 => (qf_Model_load_b58 n) u x1 x2 x3 v2))
def qf_Model_load_b29 (u : qm_S) (x1 : Int32) (x2 : Int32) (x3 : Int32) (y1 : Int32) : Option (Int32 × qm_S) := xx_nm (va_up u.1 0 y1, u.2) fun u1 => if (u1.1 0) ≤ 0 then (xx_nm (va_up u1.1 15 (0 : Int32), u1.2) fun u2 => (qf_Model_fresh u2).bind fun u3 => xx_nm (va_up u3.1 0 (2 : Int32), u3.2) fun u4 => xx_nm (0 : Int32) fun v5 => qf_Model_load_b58 xx_fu u4 x1 x2 x3 v5) else (some ((0 : Int32), u1))
def qf_Model_load_b24 (u : qm_S) (x1 : Int32) (x2 : Int32) (x3 : Int32) : Option (Int32 × qm_S) := qf_Model_load_b29 u x1 x2 x3 (1 : Int32)
def qf_Model_load (u : qm_S) (x1 : Int32) (x2 : Int32) : Option (Int32 × qm_S) := xx_nm (u.1 15) fun v1 => xx_b2 (qf_Model_isName u x1) fun v3 u2 => if v3 = 0 then (qf_Model_load_b24 u2 x1 x2 v1) else (if x2 < 0 then (qf_Model_load_b24 u2 x1 x2 v1) else (if x2 ≤ (2000 : Int32) then (qf_Model_load_b29 u2 x1 x2 v1 (0 : Int32)) else (qf_Model_load_b24 u2 x1 x2 v1)))
set_option maxHeartbeats 4000000 in
set_option maxRecDepth 100000 in
theorem qw_Model_load_b180 {p : Program} {l : Launch} {e : Env} {s : State} {m : MethodId} {args : Array Value} {below : List Frame} {meth : Method} {c : Code} {A : Nat → Prop} {g : xx_G} {r : Int32} {u9 : qm_S} (C : xx_C p s m args meth c kb_Model_load 6 kr_Model (some .int)) (hA : ∀ q, s.heap.size ≤ q → A q) (hK : va_K g.1 xx_cls (qm_T g) s) : ∀ (u : qm_S) (x4 : Int32) (H : Heap) (locs : List Loc) (ls : Array Slot), qf_Model_load_b180 u x4 = some (r, u9) → lv_has ls 6 [(0, .ref (g.2.1 0)), (4, .int x4)] → va_P g.1 xx_cls (qm_W g u) H → va_D A (qm_W g u) → va_S A s.heap H locs → W p l e (xx_rm 5 130) s m args below meth c H locs 0 0 (MQ below (xx_Q g.1 (qm_T g) (qm_W g) (some (.int r)) u9 A) args s 0 0 A) (F0 m 180 ls []) := by
  have hx := C.1
  have hb := C.2.1
  have hown := C.2.2.2.1
  have hts := C.2.2.2.2.1
  intro u x4 H locs ls hF hl hP hD hS
  unfold qf_Model_load_b180 at hF
  refine lv_aload_n hx hb qd_Model_load_180 rfl (lv_at hl 0 rfl) ?_
  refine xx_get C ki_Model hK hP 0 rfl rfl 17 (by decide) kw_890 rfl rfl qd_Model_load_181 ?_
  refine lv_if_le (tgt := 189) hx hb qd_Model_load_184 (by decide) (fun hc => ?_) (fun hc => ?_)
  · have hF := xx_ip hc hF
    refine lv_aload_n hx hb qd_Model_load_189 rfl (lv_at hl 0 rfl) ?_
    refine lv_iconst (v := (0 : Int32)) hx hb qd_Model_load_190 (by decide) ?_
    obtain ⟨u1, eu1, hF⟩ := xx_nm_some hF
    refine xx_put (ws1 := qm_W g u1) C ki_Model kt_Model ko_Model kn_Model hK hP hD hS 0 rfl rfl 0 (by decide) kw_873 rfl rfl rfl rfl (Nat.le_of_ble_eq_true rfl) (by rw [eu1]; rfl) qd_Model_load_191 (fun H locs hP hD hS => ?_)
    refine lv_aload_n hx hb qd_Model_load_194 rfl (lv_at hl 0 rfl) ?_
    refine xx_get C ki_Model hK hP 0 rfl rfl 10 (by decide) kw_883 rfl rfl qd_Model_load_195 ?_
    refine lv_iload hx hb qd_Model_load_198 (lv_at hl 1 rfl) ?_
    obtain ⟨v2, ev2, hF⟩ := xx_ob hF
    refine xx_iald C hK hP 8 0 rfl rfl ev2 qd_Model_load_200 ?_
    exact xx_iret C hF hK hP hD hS qd_Model_load_201
  · have hF := xx_in' hc hF
    refine lv_iconst (v := (0 : Int32)) hx hb qd_Model_load_187 (by decide) ?_
    exact xx_iret C hF hK hP hD hS qd_Model_load_188
set_option maxHeartbeats 4000000 in
set_option maxRecDepth 100000 in
theorem qw_Model_load_b114 {p : Program} {l : Launch} {e : Env} {s : State} {m : MethodId} {args : Array Value} {below : List Frame} {meth : Method} {c : Code} {A : Nat → Prop} {g : xx_G} {r : Int32} {u9 : qm_S} (C : xx_C p s m args meth c kb_Model_load 6 kr_Model (some .int)) (hA : ∀ q, s.heap.size ≤ q → A q) (hK : va_K g.1 xx_cls (qm_T g) s) : ∀ (u : qm_S) (x4 : Int32) (H : Heap) (locs : List Loc) (ls : Array Slot), qf_Model_load_b114 u x4 = some (r, u9) → lv_has ls 6 [(0, .ref (g.2.1 0)), (4, .int x4)] → va_P g.1 xx_cls (qm_W g u) H → va_D A (qm_W g u) → va_S A s.heap H locs → W p l e (xx_rm 5 130) s m args below meth c H locs 0 0 (MQ below (xx_Q g.1 (qm_T g) (qm_W g) (some (.int r)) u9 A) args s 0 0 A) (F0 m 114 ls []) := by
  have hx := C.1
  have hb := C.2.1
  have hown := C.2.2.2.1
  have hts := C.2.2.2.2.1
  intro u x4 H locs ls hF hl hP hD hS
  unfold qf_Model_load_b114 at hF
  refine lv_aload_n hx hb qd_Model_load_114 rfl (lv_at hl 0 rfl) ?_
  refine lv_iconst (v := (2 : Int32)) hx hb qd_Model_load_115 (by decide) ?_
  refine lv_iconst (v := (-1 : Int32)) hx hb qd_Model_load_116 (by decide) ?_
  obtain ⟨v2, u1, eu1, hF⟩ := xx_b2_some hF
  refine xx_callV (n := 2) (As := [.int (2 : Int32), .int (-1 : Int32)]) (rest := []) C (qc_Model_wrong l g u (2 : Int32) (-1 : Int32) v2 u1 eu1) ⟨kw_1060, kw_1057, kw_1059, ks_Model_wrong, kw_9⟩ ⟨by decide +kernel, by decide +kernel, by decide +kernel⟩ rfl ⟨Nat.le_of_ble_eq_true rfl, Nat.le_of_ble_eq_true rfl⟩ 0 rfl rfl hl.1 rfl (Nat.le_of_ble_eq_true rfl) hA hK hP hD hS ⟨Nat.le_refl _, Nat.le_refl _⟩ rfl rfl rfl qd_Model_load_117 (fun H locs hP hD hS => ?_)
  refine lv_pop hx hb qd_Model_load_120 rfl ?_
  refine lv_goto (tgt := 180) hx hb qd_Model_load_121 (by decide) ?_
  exact qw_Model_load_b180 C hA hK  u1 x4 _ _ _ hF (lv_sub hl [0, 1] rfl) hP hD hS
set_option maxHeartbeats 4000000 in
set_option maxRecDepth 100000 in
theorem qw_Model_load_b81 {p : Program} {l : Launch} {e : Env} {s : State} {m : MethodId} {args : Array Value} {below : List Frame} {meth : Method} {c : Code} {A : Nat → Prop} {g : xx_G} {r : Int32} {u9 : qm_S} (C : xx_C p s m args meth c kb_Model_load 6 kr_Model (some .int)) (hA : ∀ q, s.heap.size ≤ q → A q) (hK : va_K g.1 xx_cls (qm_T g) s) : ∀ (u : qm_S) (x1 : Int32) (x2 : Int32) (x3 : Int32) (x4 : Int32) (H : Heap) (locs : List Loc) (ls : Array Slot), qf_Model_load_b81 u x1 x2 x3 x4 = some (r, u9) → lv_has ls 6 [(0, .ref (g.2.1 0)), (1, .int x1), (2, .int x2), (3, .int x3), (4, .int x4)] → va_P g.1 xx_cls (qm_W g u) H → va_D A (qm_W g u) → va_S A s.heap H locs → W p l e (xx_rm 5 130) s m args below meth c H locs 0 0 (MQ below (xx_Q g.1 (qm_T g) (qm_W g) (some (.int r)) u9 A) args s 0 0 A) (F0 m 81 ls []) := by
  have hx := C.1
  have hb := C.2.1
  have hown := C.2.2.2.1
  have hts := C.2.2.2.2.1
  intro u x1 x2 x3 x4 H locs ls hF hl hP hD hS
  unfold qf_Model_load_b81 at hF
  refine lv_aload_n hx hb qd_Model_load_81 rfl (lv_at hl 0 rfl) ?_
  refine lv_iload_n hx hb qd_Model_load_82 rfl (lv_at hl 3 rfl) ?_
  obtain ⟨v2, u1, eu1, hF⟩ := xx_b2_some hF
  refine xx_callV (n := 1) (As := [.int x3]) (rest := []) C (qc_Model_isFile l g u x3 v2 u1 eu1) ⟨kw_1036, kw_1033, kw_1035, ks_Model_isFile, kw_9⟩ ⟨by decide +kernel, by decide +kernel, by decide +kernel⟩ rfl ⟨Nat.le_of_ble_eq_true rfl, Nat.le_of_ble_eq_true rfl⟩ 0 rfl rfl hl.1 rfl (Nat.le_of_ble_eq_true rfl) hA hK hP hD hS ⟨Nat.le_refl _, Nat.le_refl _⟩ rfl rfl rfl qd_Model_load_83 (fun H locs hP hD hS => ?_)
  refine lv_if_ne (tgt := 99) hx hb qd_Model_load_86 (by decide) (fun hc => ?_) (fun hc => ?_)
  · have hF := xx_in' hc hF
    refine lv_aload_n hx hb qd_Model_load_99 rfl (lv_at hl 0 rfl) ?_
    refine lv_iload_n hx hb qd_Model_load_100 rfl (lv_at hl 1 rfl) ?_
    obtain ⟨v4, u3, eu3, hF⟩ := xx_b2_some hF
    refine xx_callV (n := 1) (As := [.int x1]) (rest := []) C (qc_Model_numberOf l g u1 x1 v4 u3 eu3) ⟨kw_1064, kw_1061, kw_1063, ks_Model_numberOf, kw_9⟩ ⟨by decide +kernel, by decide +kernel, by decide +kernel⟩ rfl ⟨Nat.le_of_ble_eq_true rfl, Nat.le_of_ble_eq_true rfl⟩ 0 rfl rfl hl.1 rfl (Nat.le_of_ble_eq_true rfl) hA hK hP hD hS ⟨Nat.le_refl _, Nat.le_refl _⟩ rfl rfl rfl qd_Model_load_101 (fun H locs hP hD hS => ?_)
    refine lv_if_ge (tgt := 114) hx hb qd_Model_load_104 (by decide) (fun hc => ?_) (fun hc => ?_)
    · have hF := xx_ip hc hF
      exact qw_Model_load_b114 C hA hK  u3 x4 _ _ _ hF (lv_sub hl [0, 4] rfl) hP hD hS
    · have hF := xx_in' hc hF
      refine lv_iload hx hb qd_Model_load_107 (lv_at hl 4 rfl) ?_
      refine lv_bipush (v := (12 : Int32)) hx hb qd_Model_load_109 (by decide) ?_
      refine lv_icmp_ne (tgt := 124) hx hb qd_Model_load_111 (by decide) (fun hc => ?_) (fun hc => ?_)
      · have hF := xx_in' hc hF
        refine lv_aload_n hx hb qd_Model_load_124 rfl (lv_at hl 0 rfl) ?_
        obtain ⟨v6, u5, eu5, hF⟩ := xx_b2_some hF
        refine xx_callV (n := 0) (As := []) (rest := []) C (qc_Model_importsWrong l g u3 v6 u5 eu5) ⟨kw_1068, kw_1065, kw_1067, ks_Model_importsWrong, kw_9⟩ ⟨by decide +kernel, by decide +kernel, by decide +kernel⟩ rfl ⟨Nat.le_of_ble_eq_true rfl, Nat.le_of_ble_eq_true rfl⟩ 0 rfl rfl hl.1 rfl (Nat.le_of_ble_eq_true rfl) hA hK hP hD hS ⟨Nat.le_refl _, Nat.le_refl _⟩ rfl rfl rfl qd_Model_load_125 (fun H locs hP hD hS => ?_)
        refine lv_if_ne (tgt := 180) hx hb qd_Model_load_128 (by decide) (fun hc => ?_) (fun hc => ?_)
        · have hF := xx_in' hc hF
          exact qw_Model_load_b180 C hA hK  u5 x4 _ _ _ hF (lv_sub hl [0, 4] rfl) hP hD hS
        · have hF := xx_ip hc hF
          refine lv_aload_n hx hb qd_Model_load_131 rfl (lv_at hl 0 rfl) ?_
          obtain ⟨v8, u7, eu7, hF⟩ := xx_b2_some hF
          refine xx_callV (n := 0) (As := []) (rest := []) C (qc_Model_exportsWrong l g u5 v8 u7 eu7) ⟨kw_1072, kw_1069, kw_1071, ks_Model_exportsWrong, kw_9⟩ ⟨by decide +kernel, by decide +kernel, by decide +kernel⟩ rfl ⟨Nat.le_of_ble_eq_true rfl, Nat.le_of_ble_eq_true rfl⟩ 0 rfl rfl hl.1 rfl (Nat.le_of_ble_eq_true rfl) hA hK hP hD hS ⟨Nat.le_refl _, Nat.le_refl _⟩ rfl rfl rfl qd_Model_load_132 (fun H locs hP hD hS => ?_)
          refine lv_if_ne (tgt := 180) hx hb qd_Model_load_135 (by decide) (fun hc => ?_) (fun hc => ?_)
          · have hF := xx_in' hc hF
            exact qw_Model_load_b180 C hA hK  u7 x4 _ _ _ hF (lv_sub hl [0, 4] rfl) hP hD hS
          · have hF := xx_ip hc hF
            refine lv_aload_n hx hb qd_Model_load_138 rfl (lv_at hl 0 rfl) ?_
            refine lv_aload_n hx hb qd_Model_load_139 rfl (lv_at hl 0 rfl) ?_
            refine xx_get C ki_Model hK hP 0 rfl rfl 26 (by decide) kw_899 rfl rfl qd_Model_load_140 ?_
            refine lv_bipush (v := (15 : Int32)) hx hb qd_Model_load_143 (by decide) ?_
            refine lv_iadd hx hb qd_Model_load_145 ?_
            refine lv_bipush (v := (16 : Int32)) hx hb qd_Model_load_146 (by decide) ?_
            refine lv_idiv hx hb qd_Model_load_148 (by decide) ?_
            obtain ⟨v10, u9, eu9, hF⟩ := xx_b2_some hF
            refine xx_callV (n := 1) (As := [.int (((u7.1 26) + (15 : Int32)) / (16 : Int32))]) (rest := []) C (qc_Model_room l g u7 (((u7.1 26) + (15 : Int32)) / (16 : Int32)) v10 u9 eu9) ⟨kw_1076, kw_1073, kw_1075, ks_Model_room, kw_9⟩ ⟨by decide +kernel, by decide +kernel, by decide +kernel⟩ rfl ⟨Nat.le_of_ble_eq_true rfl, Nat.le_of_ble_eq_true rfl⟩ 0 rfl rfl hl.1 rfl (Nat.le_of_ble_eq_true rfl) hA hK hP hD hS ⟨Nat.le_refl _, Nat.le_refl _⟩ rfl rfl rfl qd_Model_load_149 (fun H locs hP hD hS => ?_)
            refine lv_istore hx hb qd_Model_load_152 hl (by decide) rfl (fun ls hl => ?_)
            refine lv_iload hx hb qd_Model_load_154 (lv_at hl 0 rfl) ?_
            refine lv_if_ge (tgt := 170) hx hb qd_Model_load_156 (by decide) (fun hc => ?_) (fun hc => ?_)
            · have hF := xx_ip hc hF
              refine lv_aload_n hx hb qd_Model_load_170 rfl (lv_at hl 1 rfl) ?_
              refine lv_iload hx hb qd_Model_load_171 (lv_at hl 5 rfl) ?_
              refine lv_iload_n hx hb qd_Model_load_173 rfl (lv_at hl 2 rfl) ?_
              refine lv_iload hx hb qd_Model_load_174 (lv_at hl 0 rfl) ?_
              refine lv_iload_n hx hb qd_Model_load_176 rfl (lv_at hl 3 rfl) ?_
              obtain ⟨u11, eu11, hF⟩ := xx_ob hF
              refine xx_callV (n := 4) (As := [.int x4, .int x1, .int v10, .int x2]) (rest := []) C (qc_Model_bring l g u9 x4 x1 v10 x2 u11 eu11) ⟨kw_1084, kw_1081, kw_1083, ks_Model_bring, kw_9⟩ ⟨by decide +kernel, by decide +kernel, by decide +kernel⟩ rfl ⟨Nat.le_of_ble_eq_true rfl, Nat.le_of_ble_eq_true rfl⟩ 0 rfl rfl hl.1 rfl (Nat.le_of_ble_eq_true rfl) hA hK hP hD hS ⟨Nat.le_refl _, Nat.le_refl _⟩ rfl rfl rfl qd_Model_load_177 (fun H locs hP hD hS => ?_)
              exact qw_Model_load_b180 C hA hK  u11 x4 _ _ _ hF (lv_sub hl [1, 5] rfl) hP hD hS
            · have hF := xx_in' hc hF
              refine lv_aload_n hx hb qd_Model_load_159 rfl (lv_at hl 1 rfl) ?_
              refine lv_bipush (v := (6 : Int32)) hx hb qd_Model_load_160 (by decide) ?_
              refine lv_iconst (v := (-1 : Int32)) hx hb qd_Model_load_162 (by decide) ?_
              obtain ⟨v13, u12, eu12, hF⟩ := xx_b2_some hF
              refine xx_callV (n := 2) (As := [.int (6 : Int32), .int (-1 : Int32)]) (rest := []) C (qc_Model_wrong l g u9 (6 : Int32) (-1 : Int32) v13 u12 eu12) ⟨kw_1060, kw_1057, kw_1059, ks_Model_wrong, kw_9⟩ ⟨by decide +kernel, by decide +kernel, by decide +kernel⟩ rfl ⟨Nat.le_of_ble_eq_true rfl, Nat.le_of_ble_eq_true rfl⟩ 0 rfl rfl hl.1 rfl (Nat.le_of_ble_eq_true rfl) hA hK hP hD hS ⟨Nat.le_refl _, Nat.le_refl _⟩ rfl rfl rfl qd_Model_load_163 (fun H locs hP hD hS => ?_)
              refine lv_pop hx hb qd_Model_load_166 rfl ?_
              refine lv_goto (tgt := 180) hx hb qd_Model_load_167 (by decide) ?_
              exact qw_Model_load_b180 C hA hK  u12 x4 _ _ _ hF (lv_sub hl [1, 5] rfl) hP hD hS
      · have hF := xx_ip hc hF
        exact qw_Model_load_b114 C hA hK  u3 x4 _ _ _ hF (lv_sub hl [0, 4] rfl) hP hD hS
  · have hF := xx_ip hc hF
    refine lv_aload_n hx hb qd_Model_load_89 rfl (lv_at hl 0 rfl) ?_
    refine lv_iconst (v := (1 : Int32)) hx hb qd_Model_load_90 (by decide) ?_
    refine lv_iconst (v := (-1 : Int32)) hx hb qd_Model_load_91 (by decide) ?_
    obtain ⟨v15, u14, eu14, hF⟩ := xx_b2_some hF
    refine xx_callV (n := 2) (As := [.int (1 : Int32), .int (-1 : Int32)]) (rest := []) C (qc_Model_wrong l g u1 (1 : Int32) (-1 : Int32) v15 u14 eu14) ⟨kw_1060, kw_1057, kw_1059, ks_Model_wrong, kw_9⟩ ⟨by decide +kernel, by decide +kernel, by decide +kernel⟩ rfl ⟨Nat.le_of_ble_eq_true rfl, Nat.le_of_ble_eq_true rfl⟩ 0 rfl rfl hl.1 rfl (Nat.le_of_ble_eq_true rfl) hA hK hP hD hS ⟨Nat.le_refl _, Nat.le_refl _⟩ rfl rfl rfl qd_Model_load_92 (fun H locs hP hD hS => ?_)
    refine lv_pop hx hb qd_Model_load_95 rfl ?_
    refine lv_goto (tgt := 180) hx hb qd_Model_load_96 (by decide) ?_
    exact qw_Model_load_b180 C hA hK  u14 x4 _ _ _ hF (lv_sub hl [0, 4] rfl) hP hD hS
set_option maxHeartbeats 4000000 in
set_option maxRecDepth 100000 in
theorem qw_Model_load_b58 {p : Program} {l : Launch} {e : Env} {s : State} {m : MethodId} {args : Array Value} {below : List Frame} {meth : Method} {c : Code} {A : Nat → Prop} {g : xx_G} {r : Int32} {u9 : qm_S} (C : xx_C p s m args meth c kb_Model_load 6 kr_Model (some .int)) (hA : ∀ q, s.heap.size ≤ q → A q) (hK : va_K g.1 xx_cls (qm_T g) s) : ∀ (n : Nat), ∀ (u : qm_S) (x1 : Int32) (x2 : Int32) (x3 : Int32) (x4 : Int32) (H : Heap) (locs : List Loc) (ls : Array Slot), qf_Model_load_b58 n u x1 x2 x3 x4 = some (r, u9) → lv_has ls 6 [(0, .ref (g.2.1 0)), (1, .int x1), (2, .int x2), (3, .int x3), (4, .int x4)] → va_P g.1 xx_cls (qm_W g u) H → va_D A (qm_W g u) → va_S A s.heap H locs → W p l e (xx_rm 5 130) s m args below meth c H locs 0 0 (MQ below (xx_Q g.1 (qm_T g) (qm_W g) (some (.int r)) u9 A) args s 0 0 A) (F0 m 58 ls []) := by
  have hx := C.1
  have hb := C.2.1
  have hown := C.2.2.2.1
  have hts := C.2.2.2.2.1
  intro n
  induction n with
  | zero =>
    intro u x1 x2 x3 x4 H locs ls hF
    rw [qf_Model_load_b58] at hF
    cases hF
  | succ n ih =>
    intro u x1 x2 x3 x4 H locs ls hF hl hP hD hS
    rw [qf_Model_load_b58] at hF
    refine lv_iload hx hb qd_Model_load_58 (lv_at hl 4 rfl) ?_
    refine lv_bipush (v := (12 : Int32)) hx hb qd_Model_load_60 (by decide) ?_
    refine lv_icmp_ge (tgt := 81) hx hb qd_Model_load_62 (by decide) (fun hc => ?_) (fun hc => ?_)
    · have hF := xx_ip hc hF
      exact qw_Model_load_b81 C hA hK  u x1 x2 x3 x4 _ _ _ hF (lv_sub hl [0, 1, 2, 3, 4] rfl) hP hD hS
    · have hF := xx_in' hc hF
      refine lv_aload_n hx hb qd_Model_load_65 rfl (lv_at hl 0 rfl) ?_
      refine xx_get C ki_Model hK hP 0 rfl rfl 8 (by decide) kw_881 rfl rfl qd_Model_load_66 ?_
      refine lv_iload hx hb qd_Model_load_69 (lv_at hl 4 rfl) ?_
      obtain ⟨v1, ev1, hF⟩ := xx_ob hF
      refine xx_zald C hK hP 6 1 rfl rfl ev1 qd_Model_load_71 ?_
      refine lv_if_eq (tgt := 81) hx hb qd_Model_load_72 (by decide) (fun hc => ?_) (fun hc => ?_)
      · have hF := xx_ip hc hF
        exact qw_Model_load_b81 C hA hK  u x1 x2 x3 x4 _ _ _ hF (lv_sub hl [0, 1, 2, 3, 4] rfl) hP hD hS
      · have hF := xx_in' hc hF
        obtain ⟨v2, ev2, hF⟩ := xx_nm_some hF
        refine lv_iinc (k := 4) (v := v2) hx hb qd_Model_load_75 hl rfl (by rw [ev2, xx_lit1]) (by decide) rfl (fun ls hl => ?_)
        refine lv_goto (tgt := 58) hx hb qd_Model_load_78 (by decide) ?_
        exact ih u x1 x2 x3 v2 _ _ _ hF (lv_sub hl [1, 2, 3, 4, 0] rfl) hP hD hS
set_option maxHeartbeats 4000000 in
set_option maxRecDepth 100000 in
theorem qw_Model_load_b29 {p : Program} {l : Launch} {e : Env} {s : State} {m : MethodId} {args : Array Value} {below : List Frame} {meth : Method} {c : Code} {A : Nat → Prop} {g : xx_G} {r : Int32} {u9 : qm_S} (C : xx_C p s m args meth c kb_Model_load 6 kr_Model (some .int)) (hA : ∀ q, s.heap.size ≤ q → A q) (hK : va_K g.1 xx_cls (qm_T g) s) : ∀ (u : qm_S) (x1 : Int32) (x2 : Int32) (x3 : Int32) (y1 : Int32) (H : Heap) (locs : List Loc) (ls : Array Slot), qf_Model_load_b29 u x1 x2 x3 y1 = some (r, u9) → lv_has ls 6 [(0, .ref (g.2.1 0)), (1, .int x1), (2, .int x2), (3, .int x3)] → va_P g.1 xx_cls (qm_W g u) H → va_D A (qm_W g u) → va_S A s.heap H locs → W p l e (xx_rm 5 130) s m args below meth c H locs 0 0 (MQ below (xx_Q g.1 (qm_T g) (qm_W g) (some (.int r)) u9 A) args s 0 0 A) (F0 m 29 ls [.int y1, .ref (g.2.1 0)]) := by
  have hx := C.1
  have hb := C.2.1
  have hown := C.2.2.2.1
  have hts := C.2.2.2.2.1
  intro u x1 x2 x3 y1 H locs ls hF hl hP hD hS
  unfold qf_Model_load_b29 at hF
  obtain ⟨u1, eu1, hF⟩ := xx_nm_some hF
  refine xx_put (ws1 := qm_W g u1) C ki_Model kt_Model ko_Model kn_Model hK hP hD hS 0 rfl rfl 0 (by decide) kw_873 rfl rfl rfl rfl (Nat.le_of_ble_eq_true rfl) (by rw [eu1]; rfl) qd_Model_load_29 (fun H locs hP hD hS => ?_)
  refine lv_aload_n hx hb qd_Model_load_32 rfl (lv_at hl 0 rfl) ?_
  refine xx_get C ki_Model hK hP 0 rfl rfl 0 (by decide) kw_873 rfl rfl qd_Model_load_33 ?_
  refine lv_if_le (tgt := 41) hx hb qd_Model_load_36 (by decide) (fun hc => ?_) (fun hc => ?_)
  · have hF := xx_ip hc hF
    refine lv_aload_n hx hb qd_Model_load_41 rfl (lv_at hl 0 rfl) ?_
    refine lv_iconst (v := (0 : Int32)) hx hb qd_Model_load_42 (by decide) ?_
    obtain ⟨u2, eu2, hF⟩ := xx_nm_some hF
    refine xx_put (ws1 := qm_W g u2) C ki_Model kt_Model ko_Model kn_Model hK hP hD hS 0 rfl rfl 15 (by decide) kw_888 rfl rfl rfl rfl (Nat.le_of_ble_eq_true rfl) (by rw [eu2]; rfl) qd_Model_load_43 (fun H locs hP hD hS => ?_)
    refine lv_aload_n hx hb qd_Model_load_46 rfl (lv_at hl 0 rfl) ?_
    obtain ⟨u3, eu3, hF⟩ := xx_ob hF
    refine xx_callV (n := 0) (As := []) (rest := []) C (qc_Model_fresh l g u2 u3 eu3) ⟨kw_1032, kw_1029, kw_1031, ks_Model_fresh, kw_9⟩ ⟨by decide +kernel, by decide +kernel, by decide +kernel⟩ rfl ⟨Nat.le_of_ble_eq_true rfl, Nat.le_of_ble_eq_true rfl⟩ 0 rfl rfl hl.1 rfl (Nat.le_of_ble_eq_true rfl) hA hK hP hD hS ⟨Nat.le_refl _, Nat.le_refl _⟩ rfl rfl rfl qd_Model_load_47 (fun H locs hP hD hS => ?_)
    refine lv_aload_n hx hb qd_Model_load_50 rfl (lv_at hl 0 rfl) ?_
    refine lv_iconst (v := (2 : Int32)) hx hb qd_Model_load_51 (by decide) ?_
    obtain ⟨u4, eu4, hF⟩ := xx_nm_some hF
    refine xx_put (ws1 := qm_W g u4) C ki_Model kt_Model ko_Model kn_Model hK hP hD hS 0 rfl rfl 0 (by decide) kw_873 rfl rfl rfl rfl (Nat.le_of_ble_eq_true rfl) (by rw [eu4]; rfl) qd_Model_load_52 (fun H locs hP hD hS => ?_)
    refine lv_iconst (v := (0 : Int32)) hx hb qd_Model_load_55 (by decide) ?_
    obtain ⟨v5, ev5, hF⟩ := xx_nm_some hF
    refine xx_topi ev5 ?_
    refine lv_istore hx hb qd_Model_load_56 hl (by decide) rfl (fun ls hl => ?_)
    exact qw_Model_load_b58 C hA hK xx_fu u4 x1 x2 x3 v5 _ _ _ hF (lv_sub hl [1, 2, 3, 4, 0] rfl) hP hD hS
  · have hF := xx_in' hc hF
    refine lv_iconst (v := (0 : Int32)) hx hb qd_Model_load_39 (by decide) ?_
    exact xx_iret C hF hK hP hD hS qd_Model_load_40
set_option maxHeartbeats 4000000 in
set_option maxRecDepth 100000 in
theorem qw_Model_load_b24 {p : Program} {l : Launch} {e : Env} {s : State} {m : MethodId} {args : Array Value} {below : List Frame} {meth : Method} {c : Code} {A : Nat → Prop} {g : xx_G} {r : Int32} {u9 : qm_S} (C : xx_C p s m args meth c kb_Model_load 6 kr_Model (some .int)) (hA : ∀ q, s.heap.size ≤ q → A q) (hK : va_K g.1 xx_cls (qm_T g) s) : ∀ (u : qm_S) (x1 : Int32) (x2 : Int32) (x3 : Int32) (H : Heap) (locs : List Loc) (ls : Array Slot), qf_Model_load_b24 u x1 x2 x3 = some (r, u9) → lv_has ls 6 [(0, .ref (g.2.1 0)), (1, .int x1), (2, .int x2), (3, .int x3)] → va_P g.1 xx_cls (qm_W g u) H → va_D A (qm_W g u) → va_S A s.heap H locs → W p l e (xx_rm 5 130) s m args below meth c H locs 0 0 (MQ below (xx_Q g.1 (qm_T g) (qm_W g) (some (.int r)) u9 A) args s 0 0 A) (F0 m 24 ls [.ref (g.2.1 0)]) := by
  have hx := C.1
  have hb := C.2.1
  have hown := C.2.2.2.1
  have hts := C.2.2.2.2.1
  intro u x1 x2 x3 H locs ls hF hl hP hD hS
  unfold qf_Model_load_b24 at hF
  refine lv_iconst (v := (1 : Int32)) hx hb qd_Model_load_24 (by decide) ?_
  refine lv_goto (tgt := 29) hx hb qd_Model_load_25 (by decide) ?_
  exact qw_Model_load_b29 C hA hK  u x1 x2 x3 (1 : Int32) _ _ _ hF (lv_sub hl [0, 1, 2, 3] rfl) hP hD hS
set_option maxHeartbeats 4000000 in
set_option maxRecDepth 100000 in
theorem qc_Model_load (l : Launch) (g : xx_G) (u : qm_S) (x1 : Int32) (x2 : Int32) (r : Int32) (u9 : qm_S) (hF : qf_Model_load u x1 x2 = some (r, u9)) : xx_M l g.1 (qm_T g) (qm_W g) ky_Model_load kb_Model_load 6 (some .int) (xx_rm 5 130) [.ref (g.2.1 0), .int x1, .int x2] u (some (.int r)) u9 := by
  refine xx_body (by decide) (Nat.le_of_ble_eq_true rfl) ?_
  intro p e s m args below meth c A ls C hin hK hl hA hP hD hS
  have hx := C.1
  have hb := C.2.1
  have hown := C.2.2.2.1
  have hts := C.2.2.2.2.1
  have hl : lv_has ls 6 [(0, .ref (g.2.1 0)), (1, .int x1), (2, .int x2)] := hl
  unfold qf_Model_load at hF
  refine lv_aload_n hx hb qd_Model_load_0 rfl (lv_at hl 0 rfl) ?_
  refine xx_get C ki_Model hK hP 0 rfl rfl 15 (by decide) kw_888 rfl rfl qd_Model_load_1 ?_
  obtain ⟨v1, ev1, hF⟩ := xx_nm_some hF
  refine xx_topi ev1 ?_
  refine lv_istore_n hx hb qd_Model_load_4 rfl hl (by decide) rfl (fun ls hl => ?_)
  refine lv_aload_n hx hb qd_Model_load_5 rfl (lv_at hl 1 rfl) ?_
  refine lv_iload_n hx hb qd_Model_load_6 rfl (lv_at hl 2 rfl) ?_
  obtain ⟨v3, u2, eu2, hF⟩ := xx_b2_some hF
  refine xx_callS (n := 1) (As := [.int x1]) (rest := [.ref (g.2.1 0)]) C (qc_Model_isName l g u x1 v3 u2 eu2) ⟨kw_1008, kw_1006, kw_1007, kw_9⟩ ⟨by decide +kernel, by decide +kernel, by decide +kernel⟩ rfl ⟨Nat.le_of_ble_eq_true rfl, Nat.le_of_ble_eq_true rfl⟩ hl.1 rfl (Nat.le_of_ble_eq_true rfl) hA hK hP hD hS ⟨Nat.le_refl _, Nat.le_refl _⟩ rfl rfl rfl qd_Model_load_7 (fun H locs hP hD hS => ?_)
  refine lv_if_eq (tgt := 24) hx hb qd_Model_load_10 (by decide) (fun hc => ?_) (fun hc => ?_)
  · have hF := xx_ip hc hF
    exact qw_Model_load_b24 C hA hK  u2 x1 x2 v1 _ _ _ hF (lv_sub hl [1, 2, 3, 0] rfl) hP hD hS
  · have hF := xx_in' hc hF
    refine lv_iload_n hx hb qd_Model_load_13 rfl (lv_at hl 3 rfl) ?_
    refine lv_if_lt (tgt := 24) hx hb qd_Model_load_14 (by decide) (fun hc => ?_) (fun hc => ?_)
    · have hF := xx_ip hc hF
      exact qw_Model_load_b24 C hA hK  u2 x1 x2 v1 _ _ _ hF (lv_sub hl [1, 2, 3, 0] rfl) hP hD hS
    · have hF := xx_in' hc hF
      refine lv_iload_n hx hb qd_Model_load_17 rfl (lv_at hl 3 rfl) ?_
      refine lv_sipush (v := (2000 : Int32)) hx hb qd_Model_load_18 (by decide) ?_
      refine lv_icmp_le (tgt := 28) hx hb qd_Model_load_21 (by decide) (fun hc => ?_) (fun hc => ?_)
      · have hF := xx_ip hc hF
        refine lv_iconst (v := (0 : Int32)) hx hb qd_Model_load_28 (by decide) ?_
        exact qw_Model_load_b29 C hA hK  u2 x1 x2 v1 (0 : Int32) _ _ _ hF (lv_sub hl [1, 2, 3, 0] rfl) hP hD hS
      · have hF := xx_in' hc hF
        exact qw_Model_load_b24 C hA hK  u2 x1 x2 v1 _ _ _ hF (lv_sub hl [1, 2, 3, 0] rfl) hP hD hS
