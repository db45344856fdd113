theorem kw_890 : Cond.fieldLink "ModuleLoaderModel" 136 "ModuleLoaderModel" "fault" "I" ∈ xx_tb := xx_in (List.mem_append_right _ (List.mem_of_getElem? (i := 890) (by decide +kernel))) (by decide +kernel)
theorem kw_891 : Cond.fieldLink "ModuleLoaderModel" 50 "ModuleLoaderModel" "which" "I" ∈ xx_tb := xx_in (List.mem_append_right _ (List.mem_of_getElem? (i := 891) (by decide +kernel))) (by decide +kernel)
theorem qd_Model_wrong_0 : decode kb_Model_wrong 0 = .ok (.aload_n 0, 1) := by decide +kernel
theorem qd_Model_wrong_1 : decode kb_Model_wrong 1 = .ok (.iload_n 1, 1) := by decide +kernel
theorem qd_Model_wrong_2 : decode kb_Model_wrong 2 = .ok (.putfield 136, 3) := by decide +kernel
theorem qd_Model_wrong_5 : decode kb_Model_wrong 5 = .ok (.aload_n 0, 1) := by decide +kernel
theorem qd_Model_wrong_6 : decode kb_Model_wrong 6 = .ok (.iload_n 2, 1) := by decide +kernel
theorem qd_Model_wrong_7 : decode kb_Model_wrong 7 = .ok (.putfield 50, 3) := by decide +kernel
theorem qd_Model_wrong_10 : decode kb_Model_wrong 10 = .ok (.iconst 1, 1) := by decide +kernel
theorem qd_Model_wrong_11 : decode kb_Model_wrong 11 = .ok (.ireturn, 1) := by decide +kernel
def qf_Model_wrong (u : qm_S) (x1 : Int32) (x2 : Int32) : Option (Int32 × qm_S) := xx_nm (va_up u.1 17 x1, u.2) fun u1 => xx_nm (va_up u1.1 18 x2, u1.2) fun u2 => some (vp_nar .boolean (1 : Int32), u2)
set_option maxHeartbeats 4000000 in
set_option maxRecDepth 100000 in
theorem qc_Model_wrong (l : Launch) (g : xx_G) (u : qm_S) (x1 : Int32) (x2 : Int32) (r : Int32) (u9 : qm_S) (hF : qf_Model_wrong u x1 x2 = some (r, u9)) : xx_M l g.1 (qm_T g) (qm_W g) ky_Model_wrong kb_Model_wrong 3 (some .boolean) (xx_rm 0 0) [.ref (g.2.1 0), .int x1, .int x2] u (some (.int r)) u9 := by
  refine xx_body (by decide) (Nat.le_of_ble_eq_true rfl) ?_
  intro p e s m args below meth c A ls C hin hK hl hA hP hD hS
  have hx := C.1
  have hb := C.2.1
  have hown := C.2.2.2.1
  have hts := C.2.2.2.2.1
  have hl : lv_has ls 3 [(0, .ref (g.2.1 0)), (1, .int x1), (2, .int x2)] := hl
  unfold qf_Model_wrong at hF
  refine lv_aload_n hx hb qd_Model_wrong_0 rfl (lv_at hl 0 rfl) ?_
  refine lv_iload_n hx hb qd_Model_wrong_1 rfl (lv_at hl 1 rfl) ?_
  obtain ⟨u1, eu1, hF⟩ := xx_nm_some hF
  refine xx_put (ws1 := qm_W g u1) C ki_Model kt_Model ko_Model kn_Model hK hP hD hS 0 rfl rfl 17 (by decide) kw_890 rfl rfl rfl rfl (Nat.le_of_ble_eq_true rfl) (by rw [eu1]; rfl) qd_Model_wrong_2 (fun H locs hP hD hS => ?_)
  refine lv_aload_n hx hb qd_Model_wrong_5 rfl (lv_at hl 0 rfl) ?_
  refine lv_iload_n hx hb qd_Model_wrong_6 rfl (lv_at hl 2 rfl) ?_
  obtain ⟨u2, eu2, hF⟩ := xx_nm_some hF
  refine xx_put (ws1 := qm_W g u2) C ki_Model kt_Model ko_Model kn_Model hK hP hD hS 0 rfl rfl 18 (by decide) kw_891 rfl rfl rfl rfl (Nat.le_of_ble_eq_true rfl) (by rw [eu2]; rfl) qd_Model_wrong_7 (fun H locs hP hD hS => ?_)
  refine lv_iconst (v := (1 : Int32)) hx hb qd_Model_wrong_10 (by decide) ?_
  exact xx_zret C hF hK hP hD hS qd_Model_wrong_11
theorem kw_892 : Cond.fieldLink "ModuleLoaderModel" 146 "ModuleLoaderModel" "trap" "I" ∈ xx_tb := xx_in (List.mem_append_right _ (List.mem_of_getElem? (i := 892) (by decide +kernel))) (by decide +kernel)
theorem kw_893 : Cond.fieldLink "ModuleLoaderModel" 149 "ModuleLoaderModel" "made" "I" ∈ xx_tb := xx_in (List.mem_append_right _ (List.mem_of_getElem? (i := 893) (by decide +kernel))) (by decide +kernel)
theorem kw_894 : Cond.fieldLink "ModuleLoaderModel" 152 "ModuleLoaderModel" "returned" "I" ∈ xx_tb := xx_in (List.mem_append_right _ (List.mem_of_getElem? (i := 894) (by decide +kernel))) (by decide +kernel)
theorem qd_Model_fresh_0 : decode kb_Model_fresh 0 = .ok (.aload_n 0, 1) := by decide +kernel
theorem qd_Model_fresh_1 : decode kb_Model_fresh 1 = .ok (.iconst 0, 1) := by decide +kernel
theorem qd_Model_fresh_2 : decode kb_Model_fresh 2 = .ok (.putfield 136, 3) := by decide +kernel
theorem qd_Model_fresh_5 : decode kb_Model_fresh 5 = .ok (.aload_n 0, 1) := by decide +kernel
theorem qd_Model_fresh_6 : decode kb_Model_fresh 6 = .ok (.iconst (-1), 1) := by decide +kernel
theorem qd_Model_fresh_7 : decode kb_Model_fresh 7 = .ok (.putfield 50, 3) := by decide +kernel
theorem qd_Model_fresh_10 : decode kb_Model_fresh 10 = .ok (.aload_n 0, 1) := by decide +kernel
theorem qd_Model_fresh_11 : decode kb_Model_fresh 11 = .ok (.iconst 0, 1) := by decide +kernel
theorem qd_Model_fresh_12 : decode kb_Model_fresh 12 = .ok (.putfield 146, 3) := by decide +kernel
theorem qd_Model_fresh_15 : decode kb_Model_fresh 15 = .ok (.aload_n 0, 1) := by decide +kernel
theorem qd_Model_fresh_16 : decode kb_Model_fresh 16 = .ok (.iconst 0, 1) := by decide +kernel
theorem qd_Model_fresh_17 : decode kb_Model_fresh 17 = .ok (.putfield 149, 3) := by decide +kernel
theorem qd_Model_fresh_20 : decode kb_Model_fresh 20 = .ok (.aload_n 0, 1) := by decide +kernel
theorem qd_Model_fresh_21 : decode kb_Model_fresh 21 = .ok (.iconst 0, 1) := by decide +kernel
theorem qd_Model_fresh_22 : decode kb_Model_fresh 22 = .ok (.putfield 152, 3) := by decide +kernel
theorem qd_Model_fresh_25 : decode kb_Model_fresh 25 = .ok (.return_, 1) := by decide +kernel
def qf_Model_fresh (u : qm_S) : Option (qm_S) := xx_nm (va_up u.1 17 (0 : Int32), u.2) fun u1 => xx_nm (va_up u1.1 18 (-1 : Int32), u1.2) fun u2 => xx_nm (va_up u2.1 19 (0 : Int32), u2.2) fun u3 => xx_nm (va_up u3.1 20 (0 : Int32), u3.2) fun u4 => xx_nm (va_up u4.1 21 (0 : Int32), u4.2) fun u5 => some u5
set_option maxHeartbeats 4000000 in
set_option maxRecDepth 100000 in
theorem qc_Model_fresh (l : Launch) (g : xx_G) (u : qm_S) (u9 : qm_S) (hF : qf_Model_fresh u = some u9) : xx_M l g.1 (qm_T g) (qm_W g) ky_Model_fresh kb_Model_fresh 1 none (xx_rm 0 0) [.ref (g.2.1 0)] u none u9 := by
  refine xx_body (by decide) (Nat.le_of_ble_eq_true rfl) ?_
  intro p e s m args below meth c A ls C hin hK hl hA hP hD hS
  have hx := C.1
  have hb := C.2.1
  have hown := C.2.2.2.1
  have hts := C.2.2.2.2.1
  have hl : lv_has ls 1 [(0, .ref (g.2.1 0))] := hl
  unfold qf_Model_fresh at hF
  refine lv_aload_n hx hb qd_Model_fresh_0 rfl (lv_at hl 0 rfl) ?_
  refine lv_iconst (v := (0 : Int32)) hx hb qd_Model_fresh_1 (by decide) ?_
  obtain ⟨u1, eu1, hF⟩ := xx_nm_some hF
  refine xx_put (ws1 := qm_W g u1) C ki_Model kt_Model ko_Model kn_Model hK hP hD hS 0 rfl rfl 17 (by decide) kw_890 rfl rfl rfl rfl (Nat.le_of_ble_eq_true rfl) (by rw [eu1]; rfl) qd_Model_fresh_2 (fun H locs hP hD hS => ?_)
  refine lv_aload_n hx hb qd_Model_fresh_5 rfl (lv_at hl 0 rfl) ?_
  refine lv_iconst (v := (-1 : Int32)) hx hb qd_Model_fresh_6 (by decide) ?_
  obtain ⟨u2, eu2, hF⟩ := xx_nm_some hF
  refine xx_put (ws1 := qm_W g u2) C ki_Model kt_Model ko_Model kn_Model hK hP hD hS 0 rfl rfl 18 (by decide) kw_891 rfl rfl rfl rfl (Nat.le_of_ble_eq_true rfl) (by rw [eu2]; rfl) qd_Model_fresh_7 (fun H locs hP hD hS => ?_)
  refine lv_aload_n hx hb qd_Model_fresh_10 rfl (lv_at hl 0 rfl) ?_
  refine lv_iconst (v := (0 : Int32)) hx hb qd_Model_fresh_11 (by decide) ?_
  obtain ⟨u3, eu3, hF⟩ := xx_nm_some hF
  refine xx_put (ws1 := qm_W g u3) C ki_Model kt_Model ko_Model kn_Model hK hP hD hS 0 rfl rfl 19 (by decide) kw_892 rfl rfl rfl rfl (Nat.le_of_ble_eq_true rfl) (by rw [eu3]; rfl) qd_Model_fresh_12 (fun H locs hP hD hS => ?_)
  refine lv_aload_n hx hb qd_Model_fresh_15 rfl (lv_at hl 0 rfl) ?_
  refine lv_iconst (v := (0 : Int32)) hx hb qd_Model_fresh_16 (by decide) ?_
  obtain ⟨u4, eu4, hF⟩ := xx_nm_some hF
  refine xx_put (ws1 := qm_W g u4) C ki_Model kt_Model ko_Model kn_Model hK hP hD hS 0 rfl rfl 20 (by decide) kw_893 rfl rfl rfl rfl (Nat.le_of_ble_eq_true rfl) (by rw [eu4]; rfl) qd_Model_fresh_17 (fun H locs hP hD hS => ?_)
  refine lv_aload_n hx hb qd_Model_fresh_20 rfl (lv_at hl 0 rfl) ?_
  refine lv_iconst (v := (0 : Int32)) hx hb qd_Model_fresh_21 (by decide) ?_
  obtain ⟨u5, eu5, hF⟩ := xx_nm_some hF
  refine xx_put (ws1 := qm_W g u5) C ki_Model kt_Model ko_Model kn_Model hK hP hD hS 0 rfl rfl 21 (by decide) kw_894 rfl rfl rfl rfl (Nat.le_of_ble_eq_true rfl) (by rw [eu5]; rfl) qd_Model_fresh_22 (fun H locs hP hD hS => ?_)
  exact xx_vret C hF hK hP hD hS qd_Model_fresh_25
theorem qd_Model_isNeeded_0 : decode kb_Model_isNeeded 0 = .ok (.iconst 0, 1) := by decide +kernel
theorem qd_Model_isNeeded_1 : decode kb_Model_isNeeded 1 = .ok (.istore_n 2, 1) := by decide +kernel
theorem qd_Model_isNeeded_2 : decode kb_Model_isNeeded 2 = .ok (.iconst 0, 1) := by decide +kernel
theorem qd_Model_isNeeded_3 : decode kb_Model_isNeeded 3 = .ok (.istore_n 3, 1) := by decide +kernel
theorem qd_Model_isNeeded_4 : decode kb_Model_isNeeded 4 = .ok (.iload_n 3, 1) := by decide +kernel
theorem qd_Model_isNeeded_5 : decode kb_Model_isNeeded 5 = .ok (.bipush (12), 2) := by decide +kernel
theorem qd_Model_isNeeded_7 : decode kb_Model_isNeeded 7 = .ok (.if_icmp .ge (47), 3) := by decide +kernel
theorem qd_Model_isNeeded_10 : decode kb_Model_isNeeded 10 = .ok (.iload_n 2, 1) := by decide +kernel
theorem qd_Model_isNeeded_11 : decode kb_Model_isNeeded 11 = .ok (.ifCond .ne (31), 3) := by decide +kernel
theorem qd_Model_isNeeded_14 : decode kb_Model_isNeeded 14 = .ok (.aload_n 0, 1) := by decide +kernel
theorem qd_Model_isNeeded_15 : decode kb_Model_isNeeded 15 = .ok (.getfield 25, 3) := by decide +kernel
theorem qd_Model_isNeeded_18 : decode kb_Model_isNeeded 18 = .ok (.iload_n 3, 1) := by decide +kernel
theorem qd_Model_isNeeded_19 : decode kb_Model_isNeeded 19 = .ok (.baload, 1) := by decide +kernel
theorem qd_Model_isNeeded_20 : decode kb_Model_isNeeded 20 = .ok (.ifCond .eq (26), 3) := by decide +kernel
theorem qd_Model_isNeeded_23 : decode kb_Model_isNeeded 23 = .ok (.iload_n 3, 1) := by decide +kernel
theorem qd_Model_isNeeded_24 : decode kb_Model_isNeeded 24 = .ok (.iload_n 1, 1) := by decide +kernel
theorem qd_Model_isNeeded_25 : decode kb_Model_isNeeded 25 = .ok (.if_icmp .eq (21), 3) := by decide +kernel
theorem qd_Model_isNeeded_28 : decode kb_Model_isNeeded 28 = .ok (.aload_n 0, 1) := by decide +kernel
theorem qd_Model_isNeeded_29 : decode kb_Model_isNeeded 29 = .ok (.getfield 44, 3) := by decide +kernel
theorem qd_Model_isNeeded_32 : decode kb_Model_isNeeded 32 = .ok (.bipush (12), 2) := by decide +kernel
theorem qd_Model_isNeeded_34 : decode kb_Model_isNeeded 34 = .ok (.iload_n 3, 1) := by decide +kernel
theorem qd_Model_isNeeded_35 : decode kb_Model_isNeeded 35 = .ok (.imul, 1) := by decide +kernel
theorem qd_Model_isNeeded_36 : decode kb_Model_isNeeded 36 = .ok (.iload_n 1, 1) := by decide +kernel
theorem qd_Model_isNeeded_37 : decode kb_Model_isNeeded 37 = .ok (.iadd, 1) := by decide +kernel
theorem qd_Model_isNeeded_38 : decode kb_Model_isNeeded 38 = .ok (.baload, 1) := by decide +kernel
theorem qd_Model_isNeeded_39 : decode kb_Model_isNeeded 39 = .ok (.ifCond .eq (7), 3) := by decide +kernel
theorem qd_Model_isNeeded_42 : decode kb_Model_isNeeded 42 = .ok (.iconst 1, 1) := by decide +kernel
theorem qd_Model_isNeeded_43 : decode kb_Model_isNeeded 43 = .ok (.goto (4), 3) := by decide +kernel
theorem qd_Model_isNeeded_46 : decode kb_Model_isNeeded 46 = .ok (.iconst 0, 1) := by decide +kernel
theorem qd_Model_isNeeded_47 : decode kb_Model_isNeeded 47 = .ok (.istore_n 2, 1) := by decide +kernel
theorem qd_Model_isNeeded_48 : decode kb_Model_isNeeded 48 = .ok (.iinc 3 (1), 3) := by decide +kernel
theorem qd_Model_isNeeded_51 : decode kb_Model_isNeeded 51 = .ok (.goto (-47), 3) := by decide +kernel
theorem qd_Model_isNeeded_54 : decode kb_Model_isNeeded 54 = .ok (.iload_n 2, 1) := by decide +kernel
theorem qd_Model_isNeeded_55 : decode kb_Model_isNeeded 55 = .ok (.ireturn, 1) := by decide +kernel
def qf_Model_isNeeded_b47 (rec4 : qm_S → Int32 → Int32 → Int32 → Option (Int32 × qm_S)) (u : qm_S) (x1 : Int32) (x3 : Int32) (y0 : Int32) : Option (Int32 × qm_S) := xx_nm (x3 + (1 : Int32)) fun v1 => rec4 u x1 y0 v1
def qf_Model_isNeeded_b42 (rec4 : qm_S → Int32 → Int32 → Int32 → Option (Int32 × qm_S)) (u : qm_S) (x1 : Int32) (x3 : Int32) : Option (Int32 × qm_S) := qf_Model_isNeeded_b47 rec4 u x1 x3 (1 : Int32)
def qf_Model_isNeeded_b46 (rec4 : qm_S → Int32 → Int32 → Int32 → Option (Int32 × qm_S)) (u : qm_S) (x1 : Int32) (x3 : Int32) : Option (Int32 × qm_S) := qf_Model_isNeeded_b47 rec4 u x1 x3 (0 : Int32)
def qf_Model_isNeeded_b4 : Nat → qm_S → Int32 → Int32 → Int32 → Option (Int32 × qm_S)
  | 0, _, _, _, _ => none
  | n + 1, u, x1, x2, x3 => if (12 : Int32) ≤ x3 then (some (vp_nar .boolean x2, u)) else (if x2 = 0 then ((xx_ag (u.2 6) 12 x3).bind fun v1 => if v1 = 0 then (qf_Model_isNeeded_b46 (qf_Model_isNeeded_b4 n) u x1 x3) else (if x3 = x1 then (qf_Model_isNeeded_b46 (qf_Model_isNeeded_b4 n) u x1 x3) else ((xx_ag (u.2 12) 144 (((12 : Int32) * x3) + x1)).bind fun v2 => if v2 = 0 then (qf_Model_isNeeded_b46 (qf_Model_isNeeded_b4 n) u x1 x3) else (qf_Model_isNeeded_b42 (qf_Model_isNeeded_b4 n) u x1 x3)))) else (qf_Model_isNeeded_b42 (qf_Model_isNeeded_b4 n) u x1 x3))
def qf_Model_isNeeded (u : qm_S) (x1 : Int32) : Option (Int32 × qm_S) := xx_nm (0 : Int32) fun v1 => xx_nm (0 : Int32) fun v2 => qf_Model_isNeeded_b4 xx_fu u x1 v1 v2
set_option maxHeartbeats 4000000 in
set_option maxRecDepth 100000 in
theorem qw_Model_isNeeded_b47 {p : Program} {l : Launch} {e : Env} {s : State} {m : MethodId} {args : Array Value} {below : List Frame} {meth : Method} {c : Code} {A : Nat → Prop} {g : xx_G} {r : Int32} {u9 : qm_S} (C : xx_C p s m args meth c kb_Model_isNeeded 4 kr_Model (some .boolean)) (hA : ∀ q, s.heap.size ≤ q → A q) (hK : va_K g.1 xx_cls (qm_T g) s) {rec4 : qm_S → Int32 → Int32 → Int32 → Option (Int32 × qm_S)} (hrec4 : ∀ (u : qm_S) (x1 : Int32) (x2 : Int32) (x3 : Int32) (H : Heap) (locs : List Loc) (ls : Array Slot), rec4 u x1 x2 x3 = some (r, u9) → lv_has ls 4 [(0, .ref (g.2.1 0)), (1, .int x1), (2, .int x2), (3, .int x3)] → va_P g.1 xx_cls (qm_W g u) H → va_D A (qm_W g u) → va_S A s.heap H locs → W p l e (xx_rm 0 0) s m args below meth c H locs 0 0 (MQ below (xx_Q g.1 (qm_T g) (qm_W g) (some (.int r)) u9 A) args s 0 0 A) (F0 m 4 ls [])) : ∀ (u : qm_S) (x1 : Int32) (x3 : Int32) (y0 : Int32) (H : Heap) (locs : List Loc) (ls : Array Slot), qf_Model_isNeeded_b47 rec4 u x1 x3 y0 = some (r, u9) → lv_has ls 4 [(0, .ref (g.2.1 0)), (1, .int x1), (3, .int x3)] → va_P g.1 xx_cls (qm_W g u) H → va_D A (qm_W g u) → va_S A s.heap H locs → W p l e (xx_rm 0 0) s m args below meth c H locs 0 0 (MQ below (xx_Q g.1 (qm_T g) (qm_W g) (some (.int r)) u9 A) args s 0 0 A) (F0 m 47 ls [.int y0]) := by
  have hx := C.1
  have hb := C.2.1
  have hown := C.2.2.2.1
  have hts := C.2.2.2.2.1
  intro u x1 x3 y0 H locs ls hF hl hP hD hS
  unfold qf_Model_isNeeded_b47 at hF
  refine lv_istore_n hx hb qd_Model_isNeeded_47 rfl hl (by decide) rfl (fun ls hl => ?_)
  obtain ⟨v1, ev1, hF⟩ := xx_nm_some hF
  refine lv_iinc (k := 3) (v := v1) hx hb qd_Model_isNeeded_48 hl rfl (by rw [ev1, xx_lit1]) (by decide) rfl (fun ls hl => ?_)
  refine lv_goto (tgt := 4) hx hb qd_Model_isNeeded_51 (by decide) ?_
  exact hrec4 u x1 y0 v1 _ _ _ hF (lv_sub hl [2, 3, 1, 0] rfl) hP hD hS
set_option maxHeartbeats 4000000 in
set_option maxRecDepth 100000 in
theorem qw_Model_isNeeded_b42 {p : Program} {l : Launch} {e : Env} {s : State} {m : MethodId} {args : Array Value} {below : List Frame} {meth : Method} {c : Code} {A : Nat → Prop} {g : xx_G} {r : Int32} {u9 : qm_S} (C : xx_C p s m args meth c kb_Model_isNeeded 4 kr_Model (some .boolean)) (hA : ∀ q, s.heap.size ≤ q → A q) (hK : va_K g.1 xx_cls (qm_T g) s) {rec4 : qm_S → Int32 → Int32 → Int32 → Option (Int32 × qm_S)} (hrec4 : ∀ (u : qm_S) (x1 : Int32) (x2 : Int32) (x3 : Int32) (H : Heap) (locs : List Loc) (ls : Array Slot), rec4 u x1 x2 x3 = some (r, u9) → lv_has ls 4 [(0, .ref (g.2.1 0)), (1, .int x1), (2, .int x2), (3, .int x3)] → va_P g.1 xx_cls (qm_W g u) H → va_D A (qm_W g u) → va_S A s.heap H locs → W p l e (xx_rm 0 0) s m args below meth c H locs 0 0 (MQ below (xx_Q g.1 (qm_T g) (qm_W g) (some (.int r)) u9 A) args s 0 0 A) (F0 m 4 ls [])) : ∀ (u : qm_S) (x1 : Int32) (x3 : Int32) (H : Heap) (locs : List Loc) (ls : Array Slot), qf_Model_isNeeded_b42 rec4 u x1 x3 = some (r, u9) → lv_has ls 4 [(0, .ref (g.2.1 0)), (1, .int x1), (3, .int x3)] → va_P g.1 xx_cls (qm_W g u) H → va_D A (qm_W g u) → va_S A s.heap H locs → W p l e (xx_rm 0 0) s m args below meth c H locs 0 0 (MQ below (xx_Q g.1 (qm_T g) (qm_W g) (some (.int r)) u9 A) args s 0 0 A) (F0 m 42 ls []) := by
  have hx := C.1
  have hb := C.2.1
  have hown := C.2.2.2.1
  have hts := C.2.2.2.2.1
  intro u x1 x3 H locs ls hF hl hP hD hS
  unfold qf_Model_isNeeded_b42 at hF
  refine lv_iconst (v := (1 : Int32)) hx hb qd_Model_isNeeded_42 (by decide) ?_
  refine lv_goto (tgt := 47) hx hb qd_Model_isNeeded_43 (by decide) ?_
  exact qw_Model_isNeeded_b47 C hA hK hrec4  u x1 x3 (1 : Int32) _ _ _ hF (lv_sub hl [0, 1, 2] rfl) hP hD hS
set_option maxHeartbeats 4000000 in
set_option maxRecDepth 100000 in
theorem qw_Model_isNeeded_b46 {p : Program} {l : Launch} {e : Env} {s : State} {m : MethodId} {args : Array Value} {below : List Frame} {meth : Method} {c : Code} {A : Nat → Prop} {g : xx_G} {r : Int32} {u9 : qm_S} (C : xx_C p s m args meth c kb_Model_isNeeded 4 kr_Model (some .boolean)) (hA : ∀ q, s.heap.size ≤ q → A q) (hK : va_K g.1 xx_cls (qm_T g) s) {rec4 : qm_S → Int32 → Int32 → Int32 → Option (Int32 × qm_S)} (hrec4 : ∀ (u : qm_S) (x1 : Int32) (x2 : Int32) (x3 : Int32) (H : Heap) (locs : List Loc) (ls : Array Slot), rec4 u x1 x2 x3 = some (r, u9) → lv_has ls 4 [(0, .ref (g.2.1 0)), (1, .int x1), (2, .int x2), (3, .int x3)] → va_P g.1 xx_cls (qm_W g u) H → va_D A (qm_W g u) → va_S A s.heap H locs → W p l e (xx_rm 0 0) s m args below meth c H locs 0 0 (MQ below (xx_Q g.1 (qm_T g) (qm_W g) (some (.int r)) u9 A) args s 0 0 A) (F0 m 4 ls [])) : ∀ (u : qm_S) (x1 : Int32) (x3 : Int32) (H : Heap) (locs : List Loc) (ls : Array Slot), qf_Model_isNeeded_b46 rec4 u x1 x3 = some (r, u9) → lv_has ls 4 [(0, .ref (g.2.1 0)), (1, .int x1), (3, .int x3)] → va_P g.1 xx_cls (qm_W g u) H → va_D A (qm_W g u) → va_S A s.heap H locs → W p l e (xx_rm 0 0) s m args below meth c H locs 0 0 (MQ below (xx_Q g.1 (qm_T g) (qm_W g) (some (.int r)) u9 A) args s 0 0 A) (F0 m 46 ls []) := by
  have hx := C.1
  have hb := C.2.1
  have hown := C.2.2.2.1
  have hts := C.2.2.2.2.1
  intro u x1 x3 H locs ls hF hl hP hD hS
  unfold qf_Model_isNeeded_b46 at hF
  refine lv_iconst (v := (0 : Int32)) hx hb qd_Model_isNeeded_46 (by decide) ?_
  exact qw_Model_isNeeded_b47 C hA hK hrec4  u x1 x3 (0 : Int32) _ _ _ hF (lv_sub hl [0, 1, 2] rfl) hP hD hS
set_option maxHeartbeats 4000000 in
set_option maxRecDepth 100000 in
theorem qw_Model_isNeeded_b4 {p : Program} {l : Launch} {e : Env} {s : State} {m : MethodId} {args : Array Value} {below : List Frame} {meth : Method} {c : Code} {A : Nat → Prop} {g : xx_G} {r : Int32} {u9 : qm_S} (C : xx_C p s m args meth c kb_Model_isNeeded 4 kr_Model (some .boolean)) (hA : ∀ q, s.heap.size ≤ q → A q) (hK : va_K g.1 xx_cls (qm_T g) s) : ∀ (n : Nat), ∀ (u : qm_S) (x1 : Int32) (x2 : Int32) (x3 : Int32) (H : Heap) (locs : List Loc) (ls : Array Slot), qf_Model_isNeeded_b4 n u x1 x2 x3 = some (r, u9) → lv_has ls 4 [(0, .ref (g.2.1 0)), (1, .int x1), (2, .int x2), (3, .int x3)] → va_P g.1 xx_cls (qm_W g u) H → va_D A (qm_W g u) → va_S A s.heap H locs → W p l e (xx_rm 0 0) s m args below meth c H locs 0 0 (MQ below (xx_Q g.1 (qm_T g) (qm_W g) (some (.int r)) u9 A) args s 0 0 A) (F0 m 4 ls []) := by
  have hx := C.1
  have hb := C.2.1
  have hown := C.2.2.2.1
  have hts := C.2.2.2.2.1
  intro n
  induction n with
  | zero =>
    intro u x1 x2 x3 H locs ls hF
    rw [qf_Model_isNeeded_b4] at hF
    cases hF
  | succ n ih =>
    intro u x1 x2 x3 H locs ls hF hl hP hD hS
    rw [qf_Model_isNeeded_b4] at hF
    refine lv_iload_n hx hb qd_Model_isNeeded_4 rfl (lv_at hl 3 rfl) ?_
    refine lv_bipush (v := (12 : Int32)) hx hb qd_Model_isNeeded_5 (by decide) ?_
    refine lv_icmp_ge (tgt := 54) hx hb qd_Model_isNeeded_7 (by decide) (fun hc => ?_) (fun hc => ?_)
    · have hF := xx_ip hc hF
      refine lv_iload_n hx hb qd_Model_isNeeded_54 rfl (lv_at hl 2 rfl) ?_
      exact xx_zret C hF hK hP hD hS qd_Model_isNeeded_55
    · have hF := xx_in' hc hF
      refine lv_iload_n hx hb qd_Model_isNeeded_10 rfl (lv_at hl 2 rfl) ?_
      refine lv_if_ne (tgt := 42) hx hb qd_Model_isNeeded_11 (by decide) (fun hc => ?_) (fun hc => ?_)
      · have hF := xx_in' hc hF
        exact qw_Model_isNeeded_b42 C hA hK ih  u x1 x3 _ _ _ hF (lv_sub hl [0, 1, 3] rfl) hP hD hS
      · have hF := xx_ip hc hF
        refine lv_aload_n hx hb qd_Model_isNeeded_14 rfl (lv_at hl 0 rfl) ?_
        refine xx_get C ki_Model hK hP 0 rfl rfl 8 (by decide) kw_881 rfl rfl qd_Model_isNeeded_15 ?_
        refine lv_iload_n hx hb qd_Model_isNeeded_18 rfl (lv_at hl 3 rfl) ?_
        obtain ⟨v1, ev1, hF⟩ := xx_ob hF
        refine xx_zald C hK hP 6 1 rfl rfl ev1 qd_Model_isNeeded_19 ?_
        refine lv_if_eq (tgt := 46) hx hb qd_Model_isNeeded_20 (by decide) (fun hc => ?_) (fun hc => ?_)
        · have hF := xx_ip hc hF
          exact qw_Model_isNeeded_b46 C hA hK ih  u x1 x3 _ _ _ hF (lv_sub hl [0, 1, 3] rfl) hP hD hS
        · have hF := xx_in' hc hF
          refine lv_iload_n hx hb qd_Model_isNeeded_23 rfl (lv_at hl 3 rfl) ?_
          refine lv_iload_n hx hb qd_Model_isNeeded_24 rfl (lv_at hl 1 rfl) ?_
          refine lv_icmp_eq (tgt := 46) hx hb qd_Model_isNeeded_25 (by decide) (fun hc => ?_) (fun hc => ?_)
          · have hF := xx_ip hc hF
            exact qw_Model_isNeeded_b46 C hA hK ih  u x1 x3 _ _ _ hF (lv_sub hl [0, 1, 3] rfl) hP hD hS
          · have hF := xx_in' hc hF
            refine lv_aload_n hx hb qd_Model_isNeeded_28 rfl (lv_at hl 0 rfl) ?_
            refine xx_get C ki_Model hK hP 0 rfl rfl 14 (by decide) kw_887 rfl rfl qd_Model_isNeeded_29 ?_
            refine lv_bipush (v := (12 : Int32)) hx hb qd_Model_isNeeded_32 (by decide) ?_
            refine lv_iload_n hx hb qd_Model_isNeeded_34 rfl (lv_at hl 3 rfl) ?_
            refine lv_imul hx hb qd_Model_isNeeded_35 ?_
            refine lv_iload_n hx hb qd_Model_isNeeded_36 rfl (lv_at hl 1 rfl) ?_
            refine lv_iadd hx hb qd_Model_isNeeded_37 ?_
            obtain ⟨v2, ev2, hF⟩ := xx_ob hF
            refine xx_zald C hK hP 12 1 rfl rfl ev2 qd_Model_isNeeded_38 ?_
            refine lv_if_eq (tgt := 46) hx hb qd_Model_isNeeded_39 (by decide) (fun hc => ?_) (fun hc => ?_)
            · have hF := xx_ip hc hF
              exact qw_Model_isNeeded_b46 C hA hK ih  u x1 x3 _ _ _ hF (lv_sub hl [0, 1, 3] rfl) hP hD hS
            · have hF := xx_in' hc hF
              exact qw_Model_isNeeded_b42 C hA hK ih  u x1 x3 _ _ _ hF (lv_sub hl [0, 1, 3] rfl) hP hD hS
set_option maxHeartbeats 4000000 in
set_option maxRecDepth 100000 in
theorem qc_Model_isNeeded (l : Launch) (g : xx_G) (u : qm_S) (x1 : Int32) (r : Int32) (u9 : qm_S) (hF : qf_Model_isNeeded u x1 = some (r, u9)) : xx_M l g.1 (qm_T g) (qm_W g) ky_Model_isNeeded kb_Model_isNeeded 4 (some .boolean) (xx_rm 0 0) [.ref (g.2.1 0), .int x1] u (some (.int r)) u9 := by
  refine xx_body (by decide) (Nat.le_of_ble_eq_true rfl) ?_
  intro p e s m args below meth c A ls C hin hK hl hA hP hD hS
  have hx := C.1
  have hb := C.2.1
  have hown := C.2.2.2.1
  have hts := C.2.2.2.2.1
  have hl : lv_has ls 4 [(0, .ref (g.2.1 0)), (1, .int x1)] := hl
  unfold qf_Model_isNeeded at hF
  refine lv_iconst (v := (0 : Int32)) hx hb qd_Model_isNeeded_0 (by decide) ?_
  obtain ⟨v1, ev1, hF⟩ := xx_nm_some hF
  refine xx_topi ev1 ?_
  refine lv_istore_n hx hb qd_Model_isNeeded_1 rfl hl (by decide) rfl (fun ls hl => ?_)
  refine lv_iconst (v := (0 : Int32)) hx hb qd_Model_isNeeded_2 (by decide) ?_
  obtain ⟨v2, ev2, hF⟩ := xx_nm_some hF
  refine xx_topi ev2 ?_
  refine lv_istore_n hx hb qd_Model_isNeeded_3 rfl hl (by decide) rfl (fun ls hl => ?_)
  exact qw_Model_isNeeded_b4 C hA hK xx_fu u x1 v1 v2 _ _ _ hF (lv_sub hl [2, 3, 1, 0] rfl) hP hD hS
theorem qd_Model_fault_0 : decode kb_Model_fault 0 = .ok (.aload_n 0, 1) := by decide +kernel
theorem qd_Model_fault_1 : decode kb_Model_fault 1 = .ok (.iconst 0, 1) := by decide +kernel
theorem qd_Model_fault_2 : decode kb_Model_fault 2 = .ok (.putfield 57, 3) := by decide +kernel
theorem qd_Model_fault_5 : decode kb_Model_fault 5 = .ok (.iload_n 1, 1) := by decide +kernel
theorem qd_Model_fault_6 : decode kb_Model_fault 6 = .ok (.tableswitch (59) (0) (4) #[34, 39, 44, 49, 54], 34) := by decide +kernel
theorem qd_Model_fault_40 : decode kb_Model_fault 40 = .ok (.aload_n 0, 1) := by decide +kernel
theorem qd_Model_fault_41 : decode kb_Model_fault 41 = .ok (.getfield 136, 3) := by decide +kernel
theorem qd_Model_fault_44 : decode kb_Model_fault 44 = .ok (.ireturn, 1) := by decide +kernel
theorem qd_Model_fault_45 : decode kb_Model_fault 45 = .ok (.aload_n 0, 1) := by decide +kernel
theorem qd_Model_fault_46 : decode kb_Model_fault 46 = .ok (.getfield 50, 3) := by decide +kernel
theorem qd_Model_fault_49 : decode kb_Model_fault 49 = .ok (.ireturn, 1) := by decide +kernel
theorem qd_Model_fault_50 : decode kb_Model_fault 50 = .ok (.aload_n 0, 1) := by decide +kernel
theorem qd_Model_fault_51 : decode kb_Model_fault 51 = .ok (.getfield 146, 3) := by decide +kernel
theorem qd_Model_fault_54 : decode kb_Model_fault 54 = .ok (.ireturn, 1) := by decide +kernel
theorem qd_Model_fault_55 : decode kb_Model_fault 55 = .ok (.aload_n 0, 1) := by decide +kernel
theorem qd_Model_fault_56 : decode kb_Model_fault 56 = .ok (.getfield 149, 3) := by decide +kernel
theorem qd_Model_fault_59 : decode kb_Model_fault 59 = .ok (.ireturn, 1) := by decide +kernel
theorem qd_Model_fault_60 : decode kb_Model_fault 60 = .ok (.aload_n 0, 1) := by decide +kernel
theorem qd_Model_fault_61 : decode kb_Model_fault 61 = .ok (.getfield 152, 3) := by decide +kernel
theorem qd_Model_fault_64 : decode kb_Model_fault 64 = .ok (.ireturn, 1) := by decide +kernel
theorem qd_Model_fault_65 : decode kb_Model_fault 65 = .ok (.iconst (-1), 1) := by decide +kernel
theorem qd_Model_fault_66 : decode kb_Model_fault 66 = .ok (.ireturn, 1) := by decide +kernel
def qf_Model_fault (u : qm_S) (x1 : Int32) : Option (Int32 × qm_S) := xx_nm (va_up u.1 0 (0 : Int32), u.2) fun u1 => if x1 = 0 then (some ((u1.1 17), u1)) else (if x1 = 1 then (some ((u1.1 18), u1)) else (if x1 = 2 then (some ((u1.1 19), u1)) else (if x1 = 3 then (some ((u1.1 20), u1)) else (if x1 = 4 then (some ((u1.1 21), u1)) else (some ((-1 : Int32), u1))))))
set_option maxHeartbeats 4000000 in
set_option maxRecDepth 100000 in
theorem qc_Model_fault (l : Launch) (g : xx_G) (u : qm_S) (x1 : Int32) (r : Int32) (u9 : qm_S) (hF : qf_Model_fault u x1 = some (r, u9)) : xx_M l g.1 (qm_T g) (qm_W g) ky_Model_fault kb_Model_fault 2 (some .int) (xx_rm 0 0) [.ref (g.2.1 0), .int x1] u (some (.int r)) u9 := by
  refine xx_body (by decide) (Nat.le_of_ble_eq_true rfl) ?_
  intro p e s m args below meth c A ls C hin hK hl hA hP hD hS
  have hx := C.1
  have hb := C.2.1
  have hown := C.2.2.2.1
  have hts := C.2.2.2.2.1
  have hl : lv_has ls 2 [(0, .ref (g.2.1 0)), (1, .int x1)] := hl
  unfold qf_Model_fault at hF
  refine lv_aload_n hx hb qd_Model_fault_0 rfl (lv_at hl 0 rfl) ?_
  refine lv_iconst (v := (0 : Int32)) hx hb qd_Model_fault_1 (by decide) ?_
  obtain ⟨u1, eu1, hF⟩ := xx_nm_some hF
  refine xx_put (ws1 := qm_W g u1) C ki_Model kt_Model ko_Model kn_Model hK hP hD hS 0 rfl rfl 0 (by decide) kw_873 rfl rfl rfl rfl (Nat.le_of_ble_eq_true rfl) (by rw [eu1]; rfl) qd_Model_fault_2 (fun H locs hP hD hS => ?_)
  refine lv_iload_n hx hb qd_Model_fault_5 rfl (lv_at hl 1 rfl) ?_
  by_cases hs0 : x1 = (0 : Int32)
  · have hF := xx_ip hs0 hF
    refine lv_tableIn (off := 34) (tgt := 40) hx hb qd_Model_fault_6 (by rw [hs0]; decide) (by rw [hs0]; decide) (by rw [hs0]; rfl) (by decide) ?_
    refine lv_aload_n hx hb qd_Model_fault_40 rfl (lv_at hl 0 rfl) ?_
    refine xx_get C ki_Model hK hP 0 rfl rfl 17 (by decide) kw_890 rfl rfl qd_Model_fault_41 ?_
    exact xx_iret C hF hK hP hD hS qd_Model_fault_44
  · have hF := xx_in' hs0 hF
    by_cases hs1 : x1 = (1 : Int32)
    · have hF := xx_ip hs1 hF
      refine lv_tableIn (off := 39) (tgt := 45) hx hb qd_Model_fault_6 (by rw [hs1]; decide) (by rw [hs1]; decide) (by rw [hs1]; rfl) (by decide) ?_
      refine lv_aload_n hx hb qd_Model_fault_45 rfl (lv_at hl 0 rfl) ?_
      refine xx_get C ki_Model hK hP 0 rfl rfl 18 (by decide) kw_891 rfl rfl qd_Model_fault_46 ?_
      exact xx_iret C hF hK hP hD hS qd_Model_fault_49
    · have hF := xx_in' hs1 hF
      by_cases hs2 : x1 = (2 : Int32)
      · have hF := xx_ip hs2 hF
        refine lv_tableIn (off := 44) (tgt := 50) hx hb qd_Model_fault_6 (by rw [hs2]; decide) (by rw [hs2]; decide) (by rw [hs2]; rfl) (by decide) ?_
        refine lv_aload_n hx hb qd_Model_fault_50 rfl (lv_at hl 0 rfl) ?_
        refine xx_get C ki_Model hK hP 0 rfl rfl 19 (by decide) kw_892 rfl rfl qd_Model_fault_51 ?_
        exact xx_iret C hF hK hP hD hS qd_Model_fault_54
      · have hF := xx_in' hs2 hF
        by_cases hs3 : x1 = (3 : Int32)
        · have hF := xx_ip hs3 hF
          refine lv_tableIn (off := 49) (tgt := 55) hx hb qd_Model_fault_6 (by rw [hs3]; decide) (by rw [hs3]; decide) (by rw [hs3]; rfl) (by decide) ?_
          refine lv_aload_n hx hb qd_Model_fault_55 rfl (lv_at hl 0 rfl) ?_
          refine xx_get C ki_Model hK hP 0 rfl rfl 20 (by decide) kw_893 rfl rfl qd_Model_fault_56 ?_
          exact xx_iret C hF hK hP hD hS qd_Model_fault_59
        · have hF := xx_in' hs3 hF
          by_cases hs4 : x1 = (4 : Int32)
          · have hF := xx_ip hs4 hF
            refine lv_tableIn (off := 54) (tgt := 60) hx hb qd_Model_fault_6 (by rw [hs4]; decide) (by rw [hs4]; decide) (by rw [hs4]; rfl) (by decide) ?_
            refine lv_aload_n hx hb qd_Model_fault_60 rfl (lv_at hl 0 rfl) ?_
            refine xx_get C ki_Model hK hP 0 rfl rfl 21 (by decide) kw_894 rfl rfl qd_Model_fault_61 ?_
            exact xx_iret C hF hK hP hD hS qd_Model_fault_64
          · have hF := xx_in' hs4 hF
            refine lv_tableOut (tgt := 65) hx hb qd_Model_fault_6 (by have h0 := lv_neT (a := 0) hs0 (by decide); have h1 := lv_neT (a := 1) hs1 (by decide); have h2 := lv_neT (a := 2) hs2 (by decide); have h3 := lv_neT (a := 3) hs3 (by decide); have h4 := lv_neT (a := 4) hs4 (by decide); omega) (by decide) ?_
            refine lv_iconst (v := (-1 : Int32)) hx hb qd_Model_fault_65 (by decide) ?_
            exact xx_iret C hF hK hP hD hS qd_Model_fault_66
theorem qd_Model_bits_0 : decode kb_Model_bits 0 = .ok (.iload_n 0, 1) := by decide +kernel
theorem qd_Model_bits_1 : decode kb_Model_bits 1 = .ok (.iload_n 1, 1) := by decide +kernel
theorem qd_Model_bits_2 : decode kb_Model_bits 2 = .ok (.ishr, 1) := by decide +kernel
theorem qd_Model_bits_3 : decode kb_Model_bits 3 = .ok (.iconst 1, 1) := by decide +kernel
theorem qd_Model_bits_4 : decode kb_Model_bits 4 = .ok (.iload_n 2, 1) := by decide +kernel
theorem qd_Model_bits_5 : decode kb_Model_bits 5 = .ok (.ishl, 1) := by decide +kernel
theorem qd_Model_bits_6 : decode kb_Model_bits 6 = .ok (.iconst 1, 1) := by decide +kernel
theorem qd_Model_bits_7 : decode kb_Model_bits 7 = .ok (.isub, 1) := by decide +kernel
theorem qd_Model_bits_8 : decode kb_Model_bits 8 = .ok (.iand, 1) := by decide +kernel
theorem qd_Model_bits_9 : decode kb_Model_bits 9 = .ok (.ireturn, 1) := by decide +kernel
def qf_Model_bits (u : qm_S) (x0 : Int32) (x1 : Int32) (x2 : Int32) : Option (Int32 × qm_S) := some (((x0 >>> (x1 &&& 31)) &&& (((1 : Int32) <<< (x2 &&& 31)) - (1 : Int32))), u)
set_option maxHeartbeats 4000000 in
set_option maxRecDepth 100000 in
theorem qc_Model_bits (l : Launch) (g : xx_G) (u : qm_S) (x0 : Int32) (x1 : Int32) (x2 : Int32) (r : Int32) (u9 : qm_S) (hF : qf_Model_bits u x0 x1 x2 = some (r, u9)) : xx_M l g.1 (qm_T g) (qm_W g) ky_Model_bits kb_Model_bits 3 (some .int) (xx_rm 0 0) [.int x0, .int x1, .int x2] u (some (.int r)) u9 := by
  refine xx_body (by decide) (Nat.le_of_ble_eq_true rfl) ?_
  intro p e s m args below meth c A ls C hin hK hl hA hP hD hS
  have hx := C.1
  have hb := C.2.1
  have hown := C.2.2.2.1
  have hts := C.2.2.2.2.1
  have hl : lv_has ls 3 [(0, .int x0), (1, .int x1), (2, .int x2)] := hl
  unfold qf_Model_bits at hF
  refine lv_iload_n hx hb qd_Model_bits_0 rfl (lv_at hl 0 rfl) ?_
  refine lv_iload_n hx hb qd_Model_bits_1 rfl (lv_at hl 1 rfl) ?_
  refine lv_ishr hx hb qd_Model_bits_2 ?_
  refine lv_iconst (v := (1 : Int32)) hx hb qd_Model_bits_3 (by decide) ?_
  refine lv_iload_n hx hb qd_Model_bits_4 rfl (lv_at hl 2 rfl) ?_
  refine lv_ishl hx hb qd_Model_bits_5 ?_
  refine lv_iconst (v := (1 : Int32)) hx hb qd_Model_bits_6 (by decide) ?_
  refine lv_isub hx hb qd_Model_bits_7 ?_
  refine lv_iand hx hb qd_Model_bits_8 ?_
  exact xx_iret C hF hK hP hD hS qd_Model_bits_9
theorem kw_1110 : Cond.constant "ModuleLoaderModel" 216 (-2147483648 : Int32) ∈ xx_tb := xx_in (List.mem_append_right _ (List.mem_of_getElem? (i := 1110) (by decide +kernel))) (by decide +kernel)
theorem qd_Model_isBelow_0 : decode kb_Model_isBelow 0 = .ok (.iload_n 0, 1) := by decide +kernel
theorem qd_Model_isBelow_1 : decode kb_Model_isBelow 1 = .ok (.ldc 216, 2) := by decide +kernel
theorem qd_Model_isBelow_3 : decode kb_Model_isBelow 3 = .ok (.iadd, 1) := by decide +kernel
theorem qd_Model_isBelow_4 : decode kb_Model_isBelow 4 = .ok (.iload_n 1, 1) := by decide +kernel
theorem qd_Model_isBelow_5 : decode kb_Model_isBelow 5 = .ok (.ldc 216, 2) := by decide +kernel
theorem qd_Model_isBelow_7 : decode kb_Model_isBelow 7 = .ok (.iadd, 1) := by decide +kernel
theorem qd_Model_isBelow_8 : decode kb_Model_isBelow 8 = .ok (.if_icmp .ge (7), 3) := by decide +kernel
theorem qd_Model_isBelow_11 : decode kb_Model_isBelow 11 = .ok (.iconst 1, 1) := by decide +kernel
theorem qd_Model_isBelow_12 : decode kb_Model_isBelow 12 = .ok (.goto (4), 3) := by decide +kernel
theorem qd_Model_isBelow_15 : decode kb_Model_isBelow 15 = .ok (.iconst 0, 1) := by decide +kernel
theorem qd_Model_isBelow_16 : decode kb_Model_isBelow 16 = .ok (.ireturn, 1) := by decide +kernel
def qf_Model_isBelow_b16 (u : qm_S) (y0 : Int32) : Option (Int32 × qm_S) := some (vp_nar .boolean y0, u)
def qf_Model_isBelow (u : qm_S) (x0 : Int32) (x1 : Int32) : Option (Int32 × qm_S) := if (x1 + (-2147483648 : Int32)) ≤ (x0 + (-2147483648 : Int32)) then (qf_Model_isBelow_b16 u (0 : Int32)) else (qf_Model_isBelow_b16 u (1 : Int32))
set_option maxHeartbeats 4000000 in
set_option maxRecDepth 100000 in
theorem qw_Model_isBelow_b16 {p : Program} {l : Launch} {e : Env} {s : State} {m : MethodId} {args : Array Value} {below : List Frame} {meth : Method} {c : Code} {A : Nat → Prop} {g : xx_G} {r : Int32} {u9 : qm_S} (C : xx_C p s m args meth c kb_Model_isBelow 2 kr_Model (some .boolean)) (hA : ∀ q, s.heap.size ≤ q → A q) (hK : va_K g.1 xx_cls (qm_T g) s) : ∀ (u : qm_S) (y0 : Int32) (H : Heap) (locs : List Loc) (ls : Array Slot), qf_Model_isBelow_b16 u y0 = some (r, u9) → lv_has ls 2 [] → va_P g.1 xx_cls (qm_W g u) H → va_D A (qm_W g u) → va_S A s.heap H locs → W p l e (xx_rm 0 0) s m args below meth c H locs 0 0 (MQ below (xx_Q g.1 (qm_T g) (qm_W g) (some (.int r)) u9 A) args s 0 0 A) (F0 m 16 ls [.int y0]) := by
  have hx := C.1
  have hb := C.2.1
  have hown := C.2.2.2.1
  have hts := C.2.2.2.2.1
  intro u y0 H locs ls hF hl hP hD hS
  unfold qf_Model_isBelow_b16 at hF
  exact xx_zret C hF hK hP hD hS qd_Model_isBelow_16
set_option maxHeartbeats 4000000 in
set_option maxRecDepth 100000 in
theorem qc_Model_isBelow (l : Launch) (g : xx_G) (u : qm_S) (x0 : Int32) (x1 : Int32) (r : Int32) (u9 : qm_S) (hF : qf_Model_isBelow u x0 x1 = some (r, u9)) : xx_M l g.1 (qm_T g) (qm_W g) ky_Model_isBelow kb_Model_isBelow 2 (some .boolean) (xx_rm 0 0) [.int x0, .int x1] u (some (.int r)) u9 := by
  refine xx_body (by decide) (Nat.le_of_ble_eq_true rfl) ?_
  intro p e s m args below meth c A ls C hin hK hl hA hP hD hS
  have hx := C.1
  have hb := C.2.1
  have hown := C.2.2.2.1
  have hts := C.2.2.2.2.1
  have hl : lv_has ls 2 [(0, .int x0), (1, .int x1)] := hl
  unfold qf_Model_isBelow at hF
  refine lv_iload_n hx hb qd_Model_isBelow_0 rfl (lv_at hl 0 rfl) ?_
  refine lv_ldc (v := (-2147483648 : Int32)) hx hb hown (hts _ kw_1110) qd_Model_isBelow_1 ?_
  refine lv_iadd hx hb qd_Model_isBelow_3 ?_
  refine lv_iload_n hx hb qd_Model_isBelow_4 rfl (lv_at hl 1 rfl) ?_
  refine lv_ldc (v := (-2147483648 : Int32)) hx hb hown (hts _ kw_1110) qd_Model_isBelow_5 ?_
  refine lv_iadd hx hb qd_Model_isBelow_7 ?_
  refine lv_icmp_ge (tgt := 15) hx hb qd_Model_isBelow_8 (by decide) (fun hc => ?_) (fun hc => ?_)
  · have hF := xx_ip hc hF
    refine lv_iconst (v := (0 : Int32)) hx hb qd_Model_isBelow_15 (by decide) ?_
    exact qw_Model_isBelow_b16 C hA hK  u (0 : Int32) _ _ _ hF (lv_sub hl [] rfl) hP hD hS
  · have hF := xx_in' hc hF
    refine lv_iconst (v := (1 : Int32)) hx hb qd_Model_isBelow_11 (by decide) ?_
    refine lv_goto (tgt := 16) hx hb qd_Model_isBelow_12 (by decide) ?_
    exact qw_Model_isBelow_b16 C hA hK  u (1 : Int32) _ _ _ hF (lv_sub hl [] rfl) hP hD hS
theorem qd_Model_access_0 : decode kb_Model_access 0 = .ok (.iload_n 0, 1) := by decide +kernel
theorem qd_Model_access_1 : decode kb_Model_access 1 = .ok (.iload_n 1, 1) := by decide +kernel
theorem qd_Model_access_2 : decode kb_Model_access 2 = .ok (.irem, 1) := by decide +kernel
theorem qd_Model_access_3 : decode kb_Model_access 3 = .ok (.ifCond .eq (7), 3) := by decide +kernel
theorem qd_Model_access_6 : decode kb_Model_access 6 = .ok (.iconst 4, 1) := by decide +kernel
theorem qd_Model_access_7 : decode kb_Model_access 7 = .ok (.goto (19), 3) := by decide +kernel
theorem qd_Model_access_10 : decode kb_Model_access 10 = .ok (.iload_n 0, 1) := by decide +kernel
theorem qd_Model_access_11 : decode kb_Model_access 11 = .ok (.ifCond .lt (10), 3) := by decide +kernel
theorem qd_Model_access_14 : decode kb_Model_access 14 = .ok (.iload_n 0, 1) := by decide +kernel
theorem qd_Model_access_15 : decode kb_Model_access 15 = .ok (.sipush (4096), 3) := by decide +kernel
theorem qd_Model_access_18 : decode kb_Model_access 18 = .ok (.if_icmp .lt (7), 3) := by decide +kernel
theorem qd_Model_access_21 : decode kb_Model_access 21 = .ok (.iconst 5, 1) := by decide +kernel
theorem qd_Model_access_22 : decode kb_Model_access 22 = .ok (.goto (4), 3) := by decide +kernel
theorem qd_Model_access_25 : decode kb_Model_access 25 = .ok (.iconst 0, 1) := by decide +kernel
theorem qd_Model_access_26 : decode kb_Model_access 26 = .ok (.ireturn, 1) := by decide +kernel
def qf_Model_access_b26 (u : qm_S) (y0 : Int32) : Option (Int32 × qm_S) := some (y0, u)
def qf_Model_access_b21 (u : qm_S) : Option (Int32 × qm_S) := qf_Model_access_b26 u (5 : Int32)
def qf_Model_access (u : qm_S) (x0 : Int32) (x1 : Int32) : Option (Int32 × qm_S) := xx_nz x1 <| if (x0 - x0 / x1 * x1) = 0 then (if x0 < 0 then (qf_Model_access_b21 u) else (if x0 < (4096 : Int32) then (qf_Model_access_b26 u (0 : Int32)) else (qf_Model_access_b21 u))) else (qf_Model_access_b26 u (4 : Int32))
set_option maxHeartbeats 4000000 in
set_option maxRecDepth 100000 in
theorem qw_Model_access_b26 {p : Program} {l : Launch} {e : Env} {s : State} {m : MethodId} {args : Array Value} {below : List Frame} {meth : Method} {c : Code} {A : Nat → Prop} {g : xx_G} {r : Int32} {u9 : qm_S} (C : xx_C p s m args meth c kb_Model_access 2 kr_Model (some .int)) (hA : ∀ q, s.heap.size ≤ q → A q) (hK : va_K g.1 xx_cls (qm_T g) s) : ∀ (u : qm_S) (y0 : Int32) (H : Heap) (locs : List Loc) (ls : Array Slot), qf_Model_access_b26 u y0 = some (r, u9) → lv_has ls 2 [] → va_P g.1 xx_cls (qm_W g u) H → va_D A (qm_W g u) → va_S A s.heap H locs → W p l e (xx_rm 0 0) s m args below meth c H locs 0 0 (MQ below (xx_Q g.1 (qm_T g) (qm_W g) (some (.int r)) u9 A) args s 0 0 A) (F0 m 26 ls [.int y0]) := by
  have hx := C.1
  have hb := C.2.1
  have hown := C.2.2.2.1
  have hts := C.2.2.2.2.1
  intro u y0 H locs ls hF hl hP hD hS
  unfold qf_Model_access_b26 at hF
  exact xx_iret C hF hK hP hD hS qd_Model_access_26
set_option maxHeartbeats 4000000 in
set_option maxRecDepth 100000 in
theorem qw_Model_access_b21 {p : Program} {l : Launch} {e : Env} {s : State} {m : MethodId} {args : Array Value} {below : List Frame} {meth : Method} {c : Code} {A : Nat → Prop} {g : xx_G} {r : Int32} {u9 : qm_S} (C : xx_C p s m args meth c kb_Model_access 2 kr_Model (some .int)) (hA : ∀ q, s.heap.size ≤ q → A q) (hK : va_K g.1 xx_cls (qm_T g) s) : ∀ (u : qm_S) (H : Heap) (locs : List Loc) (ls : Array Slot), qf_Model_access_b21 u = some (r, u9) → lv_has ls 2 [] → va_P g.1 xx_cls (qm_W g u) H → va_D A (qm_W g u) → va_S A s.heap H locs → W p l e (xx_rm 0 0) s m args below meth c H locs 0 0 (MQ below (xx_Q g.1 (qm_T g) (qm_W g) (some (.int r)) u9 A) args s 0 0 A) (F0 m 21 ls []) := by
  have hx := C.1
  have hb := C.2.1
  have hown := C.2.2.2.1
  have hts := C.2.2.2.2.1
  intro u H locs ls hF hl hP hD hS
  unfold qf_Model_access_b21 at hF
  refine lv_iconst (v := (5 : Int32)) hx hb qd_Model_access_21 (by decide) ?_
  refine lv_goto (tgt := 26) hx hb qd_Model_access_22 (by decide) ?_
  exact qw_Model_access_b26 C hA hK  u (5 : Int32) _ _ _ hF (lv_sub hl [] rfl) hP hD hS
set_option maxHeartbeats 4000000 in
set_option maxRecDepth 100000 in
theorem qc_Model_access (l : Launch) (g : xx_G) (u : qm_S) (x0 : Int32) (x1 : Int32) (r : Int32) (u9 : qm_S) (hF : qf_Model_access u x0 x1 = some (r, u9)) : xx_M l g.1 (qm_T g) (qm_W g) ky_Model_access kb_Model_access 2 (some .int) (xx_rm 0 0) [.int x0, .int x1] u (some (.int r)) u9 := by
  refine xx_body (by decide) (Nat.le_of_ble_eq_true rfl) ?_
  intro p e s m args below meth c A ls C hin hK hl hA hP hD hS
  have hx := C.1
  have hb := C.2.1
  have hown := C.2.2.2.1
  have hts := C.2.2.2.2.1
  have hl : lv_has ls 2 [(0, .int x0), (1, .int x1)] := hl
  unfold qf_Model_access at hF
  refine lv_iload_n hx hb qd_Model_access_0 rfl (lv_at hl 0 rfl) ?_
  refine lv_iload_n hx hb qd_Model_access_1 rfl (lv_at hl 1 rfl) ?_
  obtain ⟨h1, hF⟩ := xx_nz_some hF
  refine lv_irem hx hb qd_Model_access_2 h1 ?_
  refine lv_if_eq (tgt := 10) hx hb qd_Model_access_3 (by decide) (fun hc => ?_) (fun hc => ?_)
  · have hF := xx_ip hc hF
    refine lv_iload_n hx hb qd_Model_access_10 rfl (lv_at hl 0 rfl) ?_
    refine lv_if_lt (tgt := 21) hx hb qd_Model_access_11 (by decide) (fun hc => ?_) (fun hc => ?_)
    · have hF := xx_ip hc hF
      exact qw_Model_access_b21 C hA hK  u _ _ _ hF (lv_sub hl [] rfl) hP hD hS
    · have hF := xx_in' hc hF
      refine lv_iload_n hx hb qd_Model_access_14 rfl (lv_at hl 0 rfl) ?_
      refine lv_sipush (v := (4096 : Int32)) hx hb qd_Model_access_15 (by decide) ?_
      refine lv_icmp_lt (tgt := 25) hx hb qd_Model_access_18 (by decide) (fun hc => ?_) (fun hc => ?_)
      · have hF := xx_ip hc hF
        refine lv_iconst (v := (0 : Int32)) hx hb qd_Model_access_25 (by decide) ?_
        exact qw_Model_access_b26 C hA hK  u (0 : Int32) _ _ _ hF (lv_sub hl [] rfl) hP hD hS
      · have hF := xx_in' hc hF
        exact qw_Model_access_b21 C hA hK  u _ _ _ hF (lv_sub hl [] rfl) hP hD hS
  · have hF := xx_in' hc hF
    refine lv_iconst (v := (4 : Int32)) hx hb qd_Model_access_6 (by decide) ?_
    refine lv_goto (tgt := 26) hx hb qd_Model_access_7 (by decide) ?_
    exact qw_Model_access_b26 C hA hK  u (4 : Int32) _ _ _ hF (lv_sub hl [] rfl) hP hD hS
theorem kw_895 : Cond.fieldLink "ModuleLoaderModel" 54 "ModuleLoaderModel" "registers" "[I" ∈ xx_tb := xx_in (List.mem_append_right _ (List.mem_of_getElem? (i := 895) (by decide +kernel))) (by decide +kernel)
theorem qd_Model_register_0 : decode kb_Model_register 0 = .ok (.aload_n 0, 1) := by decide +kernel
theorem qd_Model_register_1 : decode kb_Model_register 1 = .ok (.iconst 0, 1) := by decide +kernel
theorem qd_Model_register_2 : decode kb_Model_register 2 = .ok (.putfield 57, 3) := by decide +kernel
theorem qd_Model_register_5 : decode kb_Model_register 5 = .ok (.iload_n 1, 1) := by decide +kernel
theorem qd_Model_register_6 : decode kb_Model_register 6 = .ok (.ifCond .lt (9), 3) := by decide +kernel
theorem qd_Model_register_9 : decode kb_Model_register 9 = .ok (.iload_n 1, 1) := by decide +kernel
theorem qd_Model_register_10 : decode kb_Model_register 10 = .ok (.bipush (31), 2) := by decide +kernel
theorem qd_Model_register_12 : decode kb_Model_register 12 = .ok (.if_icmp .le (7), 3) := by decide +kernel
theorem qd_Model_register_15 : decode kb_Model_register 15 = .ok (.iconst 0, 1) := by decide +kernel
theorem qd_Model_register_16 : decode kb_Model_register 16 = .ok (.goto (9), 3) := by decide +kernel
theorem qd_Model_register_19 : decode kb_Model_register 19 = .ok (.aload_n 0, 1) := by decide +kernel
theorem qd_Model_register_20 : decode kb_Model_register 20 = .ok (.getfield 54, 3) := by decide +kernel
theorem qd_Model_register_23 : decode kb_Model_register 23 = .ok (.iload_n 1, 1) := by decide +kernel
theorem qd_Model_register_24 : decode kb_Model_register 24 = .ok (.iaload, 1) := by decide +kernel
theorem qd_Model_register_25 : decode kb_Model_register 25 = .ok (.ireturn, 1) := by decide +kernel
def qf_Model_register_b25 (u : qm_S) (y0 : Int32) : Option (Int32 × qm_S) := some (y0, u)
def qf_Model_register_b15 (u : qm_S) : Option (Int32 × qm_S) := qf_Model_register_b25 u (0 : Int32)
def qf_Model_register (u : qm_S) (x1 : Int32) : Option (Int32 × qm_S) := xx_nm (va_up u.1 0 (0 : Int32), u.2) fun u1 => if x1 < 0 then (qf_Model_register_b15 u1) else (if x1 ≤ (31 : Int32) then ((xx_ag (u1.2 14) 32 x1).bind fun v2 => qf_Model_register_b25 u1 v2) else (qf_Model_register_b15 u1))
set_option maxHeartbeats 4000000 in
set_option maxRecDepth 100000 in
theorem qw_Model_register_b25 {p : Program} {l : Launch} {e : Env} {s : State} {m : MethodId} {args : Array Value} {below : List Frame} {meth : Method} {c : Code} {A : Nat → Prop} {g : xx_G} {r : Int32} {u9 : qm_S} (C : xx_C p s m args meth c kb_Model_register 2 kr_Model (some .int)) (hA : ∀ q, s.heap.size ≤ q → A q) (hK : va_K g.1 xx_cls (qm_T g) s) : ∀ (u : qm_S) (y0 : Int32) (H : Heap) (locs : List Loc) (ls : Array Slot), qf_Model_register_b25 u y0 = some (r, u9) → lv_has ls 2 [] → va_P g.1 xx_cls (qm_W g u) H → va_D A (qm_W g u) → va_S A s.heap H locs → W p l e (xx_rm 0 0) s m args below meth c H locs 0 0 (MQ below (xx_Q g.1 (qm_T g) (qm_W g) (some (.int r)) u9 A) args s 0 0 A) (F0 m 25 ls [.int y0]) := by
  have hx := C.1
  have hb := C.2.1
  have hown := C.2.2.2.1
  have hts := C.2.2.2.2.1
  intro u y0 H locs ls hF hl hP hD hS
  unfold qf_Model_register_b25 at hF
  exact xx_iret C hF hK hP hD hS qd_Model_register_25
set_option maxHeartbeats 4000000 in
set_option maxRecDepth 100000 in
theorem qw_Model_register_b15 {p : Program} {l : Launch} {e : Env} {s : State} {m : MethodId} {args : Array Value} {below : List Frame} {meth : Method} {c : Code} {A : Nat → Prop} {g : xx_G} {r : Int32} {u9 : qm_S} (C : xx_C p s m args meth c kb_Model_register 2 kr_Model (some .int)) (hA : ∀ q, s.heap.size ≤ q → A q) (hK : va_K g.1 xx_cls (qm_T g) s) : ∀ (u : qm_S) (H : Heap) (locs : List Loc) (ls : Array Slot), qf_Model_register_b15 u = some (r, u9) → lv_has ls 2 [] → va_P g.1 xx_cls (qm_W g u) H → va_D A (qm_W g u) → va_S A s.heap H locs → W p l e (xx_rm 0 0) s m args below meth c H locs 0 0 (MQ below (xx_Q g.1 (qm_T g) (qm_W g) (some (.int r)) u9 A) args s 0 0 A) (F0 m 15 ls []) := by
  have hx := C.1
  have hb := C.2.1
  have hown := C.2.2.2.1
  have hts := C.2.2.2.2.1
  intro u H locs ls hF hl hP hD hS
  unfold qf_Model_register_b15 at hF
  refine lv_iconst (v := (0 : Int32)) hx hb qd_Model_register_15 (by decide) ?_
  refine lv_goto (tgt := 25) hx hb qd_Model_register_16 (by decide) ?_
  exact qw_Model_register_b25 C hA hK  u (0 : Int32) _ _ _ hF (lv_sub hl [] rfl) hP hD hS
set_option maxHeartbeats 4000000 in
set_option maxRecDepth 100000 in
theorem qc_Model_register (l : Launch) (g : xx_G) (u : qm_S) (x1 : Int32) (r : Int32) (u9 : qm_S) (hF : qf_Model_register u x1 = some (r, u9)) : xx_M l g.1 (qm_T g) (qm_W g) ky_Model_register kb_Model_register 2 (some .int) (xx_rm 0 0) [.ref (g.2.1 0), .int x1] u (some (.int r)) u9 := by
  refine xx_body (by decide) (Nat.le_of_ble_eq_true rfl) ?_
  intro p e s m args below meth c A ls C hin hK hl hA hP hD hS
  have hx := C.1
  have hb := C.2.1
  have hown := C.2.2.2.1
  have hts := C.2.2.2.2.1
  have hl : lv_has ls 2 [(0, .ref (g.2.1 0)), (1, .int x1)] := hl
  unfold qf_Model_register at hF
  refine lv_aload_n hx hb qd_Model_register_0 rfl (lv_at hl 0 rfl) ?_
  refine lv_iconst (v := (0 : Int32)) hx hb qd_Model_register_1 (by decide) ?_
  obtain ⟨u1, eu1, hF⟩ := xx_nm_some hF
  refine xx_put (ws1 := qm_W g u1) C ki_Model kt_Model ko_Model kn_Model hK hP hD hS 0 rfl rfl 0 (by decide) kw_873 rfl rfl rfl rfl (Nat.le_of_ble_eq_true rfl) (by rw [eu1]; rfl) qd_Model_register_2 (fun H locs hP hD hS => ?_)
  refine lv_iload_n hx hb qd_Model_register_5 rfl (lv_at hl 1 rfl) ?_
  refine lv_if_lt (tgt := 15) hx hb qd_Model_register_6 (by decide) (fun hc => ?_) (fun hc => ?_)
  · have hF := xx_ip hc hF
    exact qw_Model_register_b15 C hA hK  u1 _ _ _ hF (lv_sub hl [] rfl) hP hD hS
  · have hF := xx_in' hc hF
    refine lv_iload_n hx hb qd_Model_register_9 rfl (lv_at hl 1 rfl) ?_
    refine lv_bipush (v := (31 : Int32)) hx hb qd_Model_register_10 (by decide) ?_
    refine lv_icmp_le (tgt := 19) hx hb qd_Model_register_12 (by decide) (fun hc => ?_) (fun hc => ?_)
    · have hF := xx_ip hc hF
      refine lv_aload_n hx hb qd_Model_register_19 rfl (lv_at hl 0 rfl) ?_
      refine xx_get C ki_Model hK hP 0 rfl rfl 22 (by decide) kw_895 rfl rfl qd_Model_register_20 ?_
      refine lv_iload_n hx hb qd_Model_register_23 rfl (lv_at hl 1 rfl) ?_
      obtain ⟨v2, ev2, hF⟩ := xx_ob hF
      refine xx_iald C hK hP 14 0 rfl rfl ev2 qd_Model_register_24 ?_
      exact qw_Model_register_b25 C hA hK  u1 v2 _ _ _ hF (lv_sub hl [] rfl) hP hD hS
    · have hF := xx_in' hc hF
      exact qw_Model_register_b15 C hA hK  u1 _ _ _ hF (lv_sub hl [] rfl) hP hD hS
theorem qd_Model_at_0 : decode kb_Model_at 0 = .ok (.aload_n 0, 1) := by decide +kernel
theorem qd_Model_at_1 : decode kb_Model_at 1 = .ok (.iconst 0, 1) := by decide +kernel
theorem qd_Model_at_2 : decode kb_Model_at 2 = .ok (.putfield 57, 3) := by decide +kernel
theorem qd_Model_at_5 : decode kb_Model_at 5 = .ok (.iload_n 1, 1) := by decide +kernel
theorem qd_Model_at_6 : decode kb_Model_at 6 = .ok (.ifCond .ge (5), 3) := by decide +kernel
theorem qd_Model_at_9 : decode kb_Model_at 9 = .ok (.iconst (-1), 1) := by decide +kernel
theorem qd_Model_at_10 : decode kb_Model_at 10 = .ok (.ireturn, 1) := by decide +kernel
theorem qd_Model_at_11 : decode kb_Model_at 11 = .ok (.iconst 0, 1) := by decide +kernel
theorem qd_Model_at_12 : decode kb_Model_at 12 = .ok (.istore_n 2, 1) := by decide +kernel
theorem qd_Model_at_13 : decode kb_Model_at 13 = .ok (.iconst 0, 1) := by decide +kernel
theorem qd_Model_at_14 : decode kb_Model_at 14 = .ok (.istore_n 3, 1) := by decide +kernel
theorem qd_Model_at_15 : decode kb_Model_at 15 = .ok (.iload_n 3, 1) := by decide +kernel
theorem qd_Model_at_16 : decode kb_Model_at 16 = .ok (.iload_n 1, 1) := by decide +kernel
theorem qd_Model_at_17 : decode kb_Model_at 17 = .ok (.if_icmp .gt (103), 3) := by decide +kernel
theorem qd_Model_at_20 : decode kb_Model_at 20 = .ok (.iconst (-1), 1) := by decide +kernel
theorem qd_Model_at_21 : decode kb_Model_at 21 = .ok (.istore 4, 2) := by decide +kernel
theorem qd_Model_at_23 : decode kb_Model_at 23 = .ok (.iconst 0, 1) := by decide +kernel
theorem qd_Model_at_24 : decode kb_Model_at 24 = .ok (.istore 5, 2) := by decide +kernel
theorem qd_Model_at_26 : decode kb_Model_at 26 = .ok (.iload 5, 2) := by decide +kernel
theorem qd_Model_at_28 : decode kb_Model_at 28 = .ok (.bipush (12), 2) := by decide +kernel
theorem qd_Model_at_30 : decode kb_Model_at 30 = .ok (.if_icmp .ge (56), 3) := by decide +kernel
theorem qd_Model_at_33 : decode kb_Model_at 33 = .ok (.aload_n 0, 1) := by decide +kernel
theorem qd_Model_at_34 : decode kb_Model_at 34 = .ok (.getfield 25, 3) := by decide +kernel
theorem qd_Model_at_37 : decode kb_Model_at 37 = .ok (.iload 5, 2) := by decide +kernel
theorem qd_Model_at_39 : decode kb_Model_at 39 = .ok (.baload, 1) := by decide +kernel
theorem qd_Model_at_40 : decode kb_Model_at 40 = .ok (.ifCond .eq (40), 3) := by decide +kernel
theorem qd_Model_at_43 : decode kb_Model_at 43 = .ok (.aload_n 0, 1) := by decide +kernel
theorem qd_Model_at_44 : decode kb_Model_at 44 = .ok (.getfield 32, 3) := by decide +kernel
theorem qd_Model_at_47 : decode kb_Model_at 47 = .ok (.iload 5, 2) := by decide +kernel
theorem qd_Model_at_49 : decode kb_Model_at 49 = .ok (.iaload, 1) := by decide +kernel
theorem qd_Model_at_50 : decode kb_Model_at 50 = .ok (.iload_n 2, 1) := by decide +kernel
theorem qd_Model_at_51 : decode kb_Model_at 51 = .ok (.if_icmp .le (29), 3) := by decide +kernel
theorem qd_Model_at_54 : decode kb_Model_at 54 = .ok (.iload 4, 2) := by decide +kernel
theorem qd_Model_at_56 : decode kb_Model_at 56 = .ok (.ifCond .lt (20), 3) := by decide +kernel
theorem qd_Model_at_59 : decode kb_Model_at 59 = .ok (.aload_n 0, 1) := by decide +kernel
theorem qd_Model_at_60 : decode kb_Model_at 60 = .ok (.getfield 32, 3) := by decide +kernel
theorem qd_Model_at_63 : decode kb_Model_at 63 = .ok (.iload 5, 2) := by decide +kernel
theorem qd_Model_at_65 : decode kb_Model_at 65 = .ok (.iaload, 1) := by decide +kernel
theorem qd_Model_at_66 : decode kb_Model_at 66 = .ok (.aload_n 0, 1) := by decide +kernel
theorem qd_Model_at_67 : decode kb_Model_at 67 = .ok (.getfield 32, 3) := by decide +kernel
theorem qd_Model_at_70 : decode kb_Model_at 70 = .ok (.iload 4, 2) := by decide +kernel
theorem qd_Model_at_72 : decode kb_Model_at 72 = .ok (.iaload, 1) := by decide +kernel
theorem qd_Model_at_73 : decode kb_Model_at 73 = .ok (.if_icmp .ge (7), 3) := by decide +kernel
theorem qd_Model_at_76 : decode kb_Model_at 76 = .ok (.iload 5, 2) := by decide +kernel
theorem qd_Model_at_78 : decode kb_Model_at 78 = .ok (.istore 4, 2) := by decide +kernel
theorem qd_Model_at_80 : decode kb_Model_at 80 = .ok (.iinc 5 (1), 3) := by decide +kernel
theorem qd_Model_at_83 : decode kb_Model_at 83 = .ok (.goto (-57), 3) := by decide +kernel
theorem qd_Model_at_86 : decode kb_Model_at 86 = .ok (.iload 4, 2) := by decide +kernel
theorem qd_Model_at_88 : decode kb_Model_at 88 = .ok (.ifCond .ge (5), 3) := by decide +kernel
theorem qd_Model_at_91 : decode kb_Model_at 91 = .ok (.iconst (-1), 1) := by decide +kernel
theorem qd_Model_at_92 : decode kb_Model_at 92 = .ok (.ireturn, 1) := by decide +kernel
theorem qd_Model_at_93 : decode kb_Model_at 93 = .ok (.aload_n 0, 1) := by decide +kernel
theorem qd_Model_at_94 : decode kb_Model_at 94 = .ok (.getfield 32, 3) := by decide +kernel
theorem qd_Model_at_97 : decode kb_Model_at 97 = .ok (.iload 4, 2) := by decide +kernel
theorem qd_Model_at_99 : decode kb_Model_at 99 = .ok (.iaload, 1) := by decide +kernel
theorem qd_Model_at_100 : decode kb_Model_at 100 = .ok (.istore_n 2, 1) := by decide +kernel
theorem qd_Model_at_101 : decode kb_Model_at 101 = .ok (.iload_n 3, 1) := by decide +kernel
theorem qd_Model_at_102 : decode kb_Model_at 102 = .ok (.iload_n 1, 1) := by decide +kernel
theorem qd_Model_at_103 : decode kb_Model_at 103 = .ok (.if_icmp .ne (11), 3) := by decide +kernel
theorem qd_Model_at_106 : decode kb_Model_at 106 = .ok (.aload_n 0, 1) := by decide +kernel
theorem qd_Model_at_107 : decode kb_Model_at 107 = .ok (.getfield 29, 3) := by decide +kernel
theorem qd_Model_at_110 : decode kb_Model_at 110 = .ok (.iload 4, 2) := by decide +kernel
theorem qd_Model_at_112 : decode kb_Model_at 112 = .ok (.iaload, 1) := by decide +kernel
theorem qd_Model_at_113 : decode kb_Model_at 113 = .ok (.ireturn, 1) := by decide +kernel
theorem qd_Model_at_114 : decode kb_Model_at 114 = .ok (.iinc 3 (1), 3) := by decide +kernel
theorem qd_Model_at_117 : decode kb_Model_at 117 = .ok (.goto (-102), 3) := by decide +kernel
theorem qd_Model_at_120 : decode kb_Model_at 120 = .ok (.iconst (-1), 1) := by decide +kernel
theorem qd_Model_at_121 : decode kb_Model_at 121 = .ok (.ireturn, 1) := by decide +kernel
def qf_Model_at_b80 (rec15 : qm_S → Int32 → Int32 → Int32 → Option (Int32 × qm_S)) (rec26 : qm_S → Int32 → Int32 → Int32 → Int32 → Int32 → Option (Int32 × qm_S)) (u : qm_S) (x1 : Int32) (x2 : Int32) (x3 : Int32) (x4 : Int32) (x5 : Int32) : Option (Int32 × qm_S) := xx_nm (x5 + (1 : Int32)) fun v1 => rec26 u x1 x2 x3 x4 v1
def qf_Model_at_b76 (rec15 : qm_S → Int32 → Int32 → Int32 → Option (Int32 × qm_S)) (rec26 : qm_S → Int32 → Int32 → Int32 → Int32 → Int32 → Option (Int32 × qm_S)) (u : qm_S) (x1 : Int32) (x2 : Int32) (x3 : Int32) (x5 : Int32) : Option (Int32 × qm_S) := qf_Model_at_b80 rec15 rec26 u x1 x2 x3 x5 x5
def qf_Model_at_b26 (rec15 : qm_S → Int32 → Int32 → Int32 → Option (Int32 × qm_S)) : Nat → qm_S → Int32 → Int32 → Int32 → Int32 → Int32 → Option (Int32 × qm_S)
  | 0, _, _, _, _, _, _ => none
  | n + 1, u, x1, x2, x3, x4, x5 => if (12 : Int32) ≤ x5 then (if 0 ≤ x4 then ((xx_ag (u.2 8) 12 x4).bind fun v1 => if x3 = x1 then ((xx_ag (u.2 7) 12 x4).bind fun v3 => some (v3, u)) else (xx_nm (x3 + (1 : Int32)) fun v2 => rec15 u x1 v1 v2)) else (some ((-1 : Int32), u))) else ((xx_ag (u.2 6) 12 x5).bind fun v4 => if v4 = 0 then (qf_Model_at_b80 rec15 (qf_Model_at_b26 rec15 n) u x1 x2 x3 x4 x5) else ((xx_ag (u.2 8) 12 x5).bind fun v5 => if v5 ≤ x2 then (qf_Model_at_b80 rec15 (qf_Model_at_b26 rec15 n) u x1 x2 x3 x4 x5) else (if x4 < 0 then (qf_Model_at_b76 rec15 (qf_Model_at_b26 rec15 n) u x1 x2 x3 x5) else ((xx_ag (u.2 8) 12 x5).bind fun v6 => (xx_ag (u.2 8) 12 x4).bind fun v7 => if v7 ≤ v6 then (qf_Model_at_b80 rec15 (qf_Model_at_b26 rec15 n) u x1 x2 x3 x4 x5) else (qf_Model_at_b76 rec15 (qf_Model_at_b26 rec15 n) u x1 x2 x3 x5)))))
def qf_Model_at_b15 : Nat → qm_S → Int32 → Int32 → Int32 → Option (Int32 × qm_S)
  | 0, _, _, _, _ => none
  | n + 1, u, x1, x2, x3 => if x1 < x3 then (some ((-1 : Int32), u)) else (xx_nm (-1 : Int32) fun v1 => xx_nm (0 : Int32) fun v2 => qf_Model_at_b26 (qf_Model_at_b15 n) xx_fu u x1 x2 x3 v1 v2)
def qf_Model_at (u : qm_S) (x1 : Int32) : Option (Int32 × qm_S) := xx_nm (va_up u.1 0 (0 : Int32), u.2) fun u1 => if 0 ≤ x1 then (xx_nm (0 : Int32) fun v2 => xx_nm (0 : Int32) fun v3 => qf_Model_at_b15 xx_fu u1 x1 v2 v3) else (some ((-1 : Int32), u1))
set_option maxHeartbeats 4000000 in
set_option maxRecDepth 100000 in
theorem qw_Model_at_b80 {p : Program} {l : Launch} {e : Env} {s : State} {m : MethodId} {args : Array Value} {below : List Frame} {meth : Method} {c : Code} {A : Nat → Prop} {g : xx_G} {r : Int32} {u9 : qm_S} (C : xx_C p s m args meth c kb_Model_at 6 kr_Model (some .int)) (hA : ∀ q, s.heap.size ≤ q → A q) (hK : va_K g.1 xx_cls (qm_T g) s) {rec15 : qm_S → Int32 → Int32 → Int32 → Option (Int32 × qm_S)} {rec26 : qm_S → Int32 → Int32 → Int32 → Int32 → Int32 → Option (Int32 × qm_S)} (hrec15 : ∀ (u : qm_S) (x1 : Int32) (x2 : Int32) (x3 : Int32) (H : Heap) (locs : List Loc) (ls : Array Slot), rec15 u x1 x2 x3 = some (r, u9) → lv_has ls 6 [(0, .ref (g.2.1 0)), (1, .int x1), (2, .int x2), (3, .int x3)] → va_P g.1 xx_cls (qm_W g u) H → va_D A (qm_W g u) → va_S A s.heap H locs → W p l e (xx_rm 0 0) s m args below meth c H locs 0 0 (MQ below (xx_Q g.1 (qm_T g) (qm_W g) (some (.int r)) u9 A) args s 0 0 A) (F0 m 15 ls [])) (hrec26 : ∀ (u : qm_S) (x1 : Int32) (x2 : Int32) (x3 : Int32) (x4 : Int32) (x5 : Int32) (H : Heap) (locs : List Loc) (ls : Array Slot), rec26 u x1 x2 x3 x4 x5 = some (r, u9) → lv_has ls 6 [(0, .ref (g.2.1 0)), (1, .int x1), (2, .int x2), (3, .int x3), (4, .int x4), (5, .int x5)] → va_P g.1 xx_cls (qm_W g u) H → va_D A (qm_W g u) → va_S A s.heap H locs → W p l e (xx_rm 0 0) s m args below meth c H locs 0 0 (MQ below (xx_Q g.1 (qm_T g) (qm_W g) (some (.int r)) u9 A) args s 0 0 A) (F0 m 26 ls [])) : ∀ (u : qm_S) (x1 : Int32) (x2 : Int32) (x3 : Int32) (x4 : Int32) (x5 : Int32) (H : Heap) (locs : List Loc) (ls : Array Slot), qf_Model_at_b80 rec15 rec26 u x1 x2 x3 x4 x5 = some (r, u9) → lv_has ls 6 [(0, .ref (g.2.1 0)), (1, .int x1), (2, .int x2), (3, .int x3), (4, .int x4), (5, .int x5)] → va_P g.1 xx_cls (qm_W g u) H → va_D A (qm_W g u) → va_S A s.heap H locs → W p l e (xx_rm 0 0) s m args below meth c H locs 0 0 (MQ below (xx_Q g.1 (qm_T g) (qm_W g) (some (.int r)) u9 A) args s 0 0 A) (F0 m 80 ls []) := by
  have hx := C.1
  have hb := C.2.1
  have hown := C.2.2.2.1
  have hts := C.2.2.2.2.1
  intro u x1 x2 x3 x4 x5 H locs ls hF hl hP hD hS
  unfold qf_Model_at_b80 at hF
  obtain ⟨v1, ev1, hF⟩ := xx_nm_some hF
  refine lv_iinc (k := 5) (v := v1) hx hb qd_Model_at_80 hl rfl (by rw [ev1, xx_lit1]) (by decide) rfl (fun ls hl => ?_)
  refine lv_goto (tgt := 26) hx hb qd_Model_at_83 (by decide) ?_
  exact hrec26 u x1 x2 x3 x4 v1 _ _ _ hF (lv_sub hl [1, 2, 3, 4, 5, 0] rfl) hP hD hS
set_option maxHeartbeats 4000000 in
set_option maxRecDepth 100000 in
theorem qw_Model_at_b76 {p : Program} {l : Launch} {e : Env} {s : State} {m : MethodId} {args : Array Value} {below : List Frame} {meth : Method} {c : Code} {A : Nat → Prop} {g : xx_G} {r : Int32} {u9 : qm_S} (C : xx_C p s m args meth c kb_Model_at 6 kr_Model (some .int)) (hA : ∀ q, s.heap.size ≤ q → A q) (hK : va_K g.1 xx_cls (qm_T g) s) {rec15 : qm_S → Int32 → Int32 → Int32 → Option (Int32 × qm_S)} {rec26 : qm_S → Int32 → Int32 → Int32 → Int32 → Int32 → Option (Int32 × qm_S)} (hrec15 : ∀ (u : qm_S) (x1 : Int32) (x2 : Int32) (x3 : Int32) (H : Heap) (locs : List Loc) (ls : Array Slot), rec15 u x1 x2 x3 = some (r, u9) → lv_has ls 6 [(0, .ref (g.2.1 0)), (1, .int x1), (2, .int x2), (3, .int x3)] → va_P g.1 xx_cls (qm_W g u) H → va_D A (qm_W g u) → va_S A s.heap H locs → W p l e (xx_rm 0 0) s m args below meth c H locs 0 0 (MQ below (xx_Q g.1 (qm_T g) (qm_W g) (some (.int r)) u9 A) args s 0 0 A) (F0 m 15 ls [])) (hrec26 : ∀ (u : qm_S) (x1 : Int32) (x2 : Int32) (x3 : Int32) (x4 : Int32) (x5 : Int32) (H : Heap) (locs : List Loc) (ls : Array Slot), rec26 u x1 x2 x3 x4 x5 = some (r, u9) → lv_has ls 6 [(0, .ref (g.2.1 0)), (1, .int x1), (2, .int x2), (3, .int x3), (4, .int x4), (5, .int x5)] → va_P g.1 xx_cls (qm_W g u) H → va_D A (qm_W g u) → va_S A s.heap H locs → W p l e (xx_rm 0 0) s m args below meth c H locs 0 0 (MQ below (xx_Q g.1 (qm_T g) (qm_W g) (some (.int r)) u9 A) args s 0 0 A) (F0 m 26 ls [])) : ∀ (u : qm_S) (x1 : Int32) (x2 : Int32) (x3 : Int32) (x5 : Int32) (H : Heap) (locs : List Loc) (ls : Array Slot), qf_Model_at_b76 rec15 rec26 u x1 x2 x3 x5 = some (r, u9) → lv_has ls 6 [(0, .ref (g.2.1 0)), (1, .int x1), (2, .int x2), (3, .int x3), (5, .int x5)] → va_P g.1 xx_cls (qm_W g u) H → va_D A (qm_W g u) → va_S A s.heap H locs → W p l e (xx_rm 0 0) s m args below meth c H locs 0 0 (MQ below (xx_Q g.1 (qm_T g) (qm_W g) (some (.int r)) u9 A) args s 0 0 A) (F0 m 76 ls []) := by
  have hx := C.1
  have hb := C.2.1
  have hown := C.2.2.2.1
  have hts := C.2.2.2.2.1
  intro u x1 x2 x3 x5 H locs ls hF hl hP hD hS
  unfold qf_Model_at_b76 at hF
  refine lv_iload hx hb qd_Model_at_76 (lv_at hl 4 rfl) ?_
  refine lv_istore hx hb qd_Model_at_78 hl (by decide) rfl (fun ls hl => ?_)
  exact qw_Model_at_b80 C hA hK hrec15 hrec26  u x1 x2 x3 x5 x5 _ _ _ hF (lv_sub hl [1, 2, 3, 4, 0, 5] rfl) hP hD hS
set_option maxHeartbeats 4000000 in
set_option maxRecDepth 100000 in
theorem qw_Model_at_b26 {p : Program} {l : Launch} {e : Env} {s : State} {m : MethodId} {args : Array Value} {below : List Frame} {meth : Method} {c : Code} {A : Nat → Prop} {g : xx_G} {r : Int32} {u9 : qm_S} (C : xx_C p s m args meth c kb_Model_at 6 kr_Model (some .int)) (hA : ∀ q, s.heap.size ≤ q → A q) (hK : va_K g.1 xx_cls (qm_T g) s) {rec15 : qm_S → Int32 → Int32 → Int32 → Option (Int32 × qm_S)} (hrec15 : ∀ (u : qm_S) (x1 : Int32) (x2 : Int32) (x3 : Int32) (H : Heap) (locs : List Loc) (ls : Array Slot), rec15 u x1 x2 x3 = some (r, u9) → lv_has ls 6 [(0, .ref (g.2.1 0)), (1, .int x1), (2, .int x2), (3, .int x3)] → va_P g.1 xx_cls (qm_W g u) H → va_D A (qm_W g u) → va_S A s.heap H locs → W p l e (xx_rm 0 0) s m args below meth c H locs 0 0 (MQ below (xx_Q g.1 (qm_T g) (qm_W g) (some (.int r)) u9 A) args s 0 0 A) (F0 m 15 ls [])) : ∀ (n : Nat), ∀ (u : qm_S) (x1 : Int32) (x2 : Int32) (x3 : Int32) (x4 : Int32) (x5 : Int32) (H : Heap) (locs : List Loc) (ls : Array Slot), qf_Model_at_b26 rec15 n u x1 x2 x3 x4 x5 = some (r, u9) → lv_has ls 6 [(0, .ref (g.2.1 0)), (1, .int x1), (2, .int x2), (3, .int x3), (4, .int x4), (5, .int x5)] → va_P g.1 xx_cls (qm_W g u) H → va_D A (qm_W g u) → va_S A s.heap H locs → W p l e (xx_rm 0 0) s m args below meth c H locs 0 0 (MQ below (xx_Q g.1 (qm_T g) (qm_W g) (some (.int r)) u9 A) args s 0 0 A) (F0 m 26 ls []) := by
  have hx := C.1
  have hb := C.2.1
  have hown := C.2.2.2.1
  have hts := C.2.2.2.2.1
  intro n
  induction n with
  | zero =>
    intro u x1 x2 x3 x4 x5 H locs ls hF
    rw [qf_Model_at_b26] at hF
    cases hF
  | succ n ih =>
    intro u x1 x2 x3 x4 x5 H locs ls hF hl hP hD hS
    rw [qf_Model_at_b26] at hF
    refine lv_iload hx hb qd_Model_at_26 (lv_at hl 5 rfl) ?_
    refine lv_bipush (v := (12 : Int32)) hx hb qd_Model_at_28 (by decide) ?_
    refine lv_icmp_ge (tgt := 86) hx hb qd_Model_at_30 (by decide) (fun hc => ?_) (fun hc => ?_)
    · have hF := xx_ip hc hF
      refine lv_iload hx hb qd_Model_at_86 (lv_at hl 4 rfl) ?_
      refine lv_if_ge (tgt := 93) hx hb qd_Model_at_88 (by decide) (fun hc => ?_) (fun hc => ?_)
      · have hF := xx_ip hc hF
        refine lv_aload_n hx hb qd_Model_at_93 rfl (lv_at hl 0 rfl) ?_
        refine xx_get C ki_Model hK hP 0 rfl rfl 10 (by decide) kw_883 rfl rfl qd_Model_at_94 ?_
        refine lv_iload hx hb qd_Model_at_97 (lv_at hl 4 rfl) ?_
        obtain ⟨v1, ev1, hF⟩ := xx_ob hF
        refine xx_iald C hK hP 8 0 rfl rfl ev1 qd_Model_at_99 ?_
        refine lv_istore_n hx hb qd_Model_at_100 rfl hl (by decide) rfl (fun ls hl => ?_)
        refine lv_iload_n hx hb qd_Model_at_101 rfl (lv_at hl 3 rfl) ?_
        refine lv_iload_n hx hb qd_Model_at_102 rfl (lv_at hl 2 rfl) ?_
        refine lv_icmp_ne (tgt := 114) hx hb qd_Model_at_103 (by decide) (fun hc => ?_) (fun hc => ?_)
        · have hF := xx_in' hc hF
          obtain ⟨v2, ev2, hF⟩ := xx_nm_some hF
          refine lv_iinc (k := 3) (v := v2) hx hb qd_Model_at_114 hl rfl (by rw [ev2, xx_lit1]) (by decide) rfl (fun ls hl => ?_)
          refine lv_goto (tgt := 15) hx hb qd_Model_at_117 (by decide) ?_
          exact hrec15 u x1 v1 v2 _ _ _ hF (lv_sub hl [2, 3, 1, 0] rfl) hP hD hS
        · have hF := xx_ip hc hF
          refine lv_aload_n hx hb qd_Model_at_106 rfl (lv_at hl 1 rfl) ?_
          refine xx_get C ki_Model hK hP 0 rfl rfl 9 (by decide) kw_882 rfl rfl qd_Model_at_107 ?_
          refine lv_iload hx hb qd_Model_at_110 (lv_at hl 4 rfl) ?_
          obtain ⟨v3, ev3, hF⟩ := xx_ob hF
          refine xx_iald C hK hP 7 0 rfl rfl ev3 qd_Model_at_112 ?_
          exact xx_iret C hF hK hP hD hS qd_Model_at_113
      · have hF := xx_in' hc hF
        refine lv_iconst (v := (-1 : Int32)) hx hb qd_Model_at_91 (by decide) ?_
        exact xx_iret C hF hK hP hD hS qd_Model_at_92
    · have hF := xx_in' hc hF
      refine lv_aload_n hx hb qd_Model_at_33 rfl (lv_at hl 0 rfl) ?_
      refine xx_get C ki_Model hK hP 0 rfl rfl 8 (by decide) kw_881 rfl rfl qd_Model_at_34 ?_
      refine lv_iload hx hb qd_Model_at_37 (lv_at hl 5 rfl) ?_
      obtain ⟨v4, ev4, hF⟩ := xx_ob hF
      refine xx_zald C hK hP 6 1 rfl rfl ev4 qd_Model_at_39 ?_
      refine lv_if_eq (tgt := 80) hx hb qd_Model_at_40 (by decide) (fun hc => ?_) (fun hc => ?_)
      · have hF := xx_ip hc hF
        exact qw_Model_at_b80 C hA hK hrec15 ih  u x1 x2 x3 x4 x5 _ _ _ hF (lv_sub hl [0, 1, 2, 3, 4, 5] rfl) hP hD hS
      · have hF := xx_in' hc hF
        refine lv_aload_n hx hb qd_Model_at_43 rfl (lv_at hl 0 rfl) ?_
        refine xx_get C ki_Model hK hP 0 rfl rfl 10 (by decide) kw_883 rfl rfl qd_Model_at_44 ?_
        refine lv_iload hx hb qd_Model_at_47 (lv_at hl 5 rfl) ?_
        obtain ⟨v5, ev5, hF⟩ := xx_ob hF
        refine xx_iald C hK hP 8 0 rfl rfl ev5 qd_Model_at_49 ?_
        refine lv_iload_n hx hb qd_Model_at_50 rfl (lv_at hl 2 rfl) ?_
        refine lv_icmp_le (tgt := 80) hx hb qd_Model_at_51 (by decide) (fun hc => ?_) (fun hc => ?_)
        · have hF := xx_ip hc hF
          exact qw_Model_at_b80 C hA hK hrec15 ih  u x1 x2 x3 x4 x5 _ _ _ hF (lv_sub hl [0, 1, 2, 3, 4, 5] rfl) hP hD hS
        · have hF := xx_in' hc hF
          refine lv_iload hx hb qd_Model_at_54 (lv_at hl 4 rfl) ?_
          refine lv_if_lt (tgt := 76) hx hb qd_Model_at_56 (by decide) (fun hc => ?_) (fun hc => ?_)
          · have hF := xx_ip hc hF
            exact qw_Model_at_b76 C hA hK hrec15 ih  u x1 x2 x3 x5 _ _ _ hF (lv_sub hl [0, 1, 2, 3, 5] rfl) hP hD hS
          · have hF := xx_in' hc hF
            refine lv_aload_n hx hb qd_Model_at_59 rfl (lv_at hl 0 rfl) ?_
            refine xx_get C ki_Model hK hP 0 rfl rfl 10 (by decide) kw_883 rfl rfl qd_Model_at_60 ?_
            refine lv_iload hx hb qd_Model_at_63 (lv_at hl 5 rfl) ?_
            obtain ⟨v6, ev6, hF⟩ := xx_ob hF
            refine xx_iald C hK hP 8 0 rfl rfl ev6 qd_Model_at_65 ?_
            refine lv_aload_n hx hb qd_Model_at_66 rfl (lv_at hl 0 rfl) ?_
            refine xx_get C ki_Model hK hP 0 rfl rfl 10 (by decide) kw_883 rfl rfl qd_Model_at_67 ?_
            refine lv_iload hx hb qd_Model_at_70 (lv_at hl 4 rfl) ?_
            obtain ⟨v7, ev7, hF⟩ := xx_ob hF
            refine xx_iald C hK hP 8 0 rfl rfl ev7 qd_Model_at_72 ?_
            refine lv_icmp_ge (tgt := 80) hx hb qd_Model_at_73 (by decide) (fun hc => ?_) (fun hc => ?_)
            · have hF := xx_ip hc hF
              exact qw_Model_at_b80 C hA hK hrec15 ih  u x1 x2 x3 x4 x5 _ _ _ hF (lv_sub hl [0, 1, 2, 3, 4, 5] rfl) hP hD hS
            · have hF := xx_in' hc hF
              exact qw_Model_at_b76 C hA hK hrec15 ih  u x1 x2 x3 x5 _ _ _ hF (lv_sub hl [0, 1, 2, 3, 5] rfl) hP hD hS
set_option maxHeartbeats 4000000 in
set_option maxRecDepth 100000 in
theorem qw_Model_at_b15 {p : Program} {l : Launch} {e : Env} {s : State} {m : MethodId} {args : Array Value} {below : List Frame} {meth : Method} {c : Code} {A : Nat → Prop} {g : xx_G} {r : Int32} {u9 : qm_S} (C : xx_C p s m args meth c kb_Model_at 6 kr_Model (some .int)) (hA : ∀ q, s.heap.size ≤ q → A q) (hK : va_K g.1 xx_cls (qm_T g) s) : ∀ (n : Nat), ∀ (u : qm_S) (x1 : Int32) (x2 : Int32) (x3 : Int32) (H : Heap) (locs : List Loc) (ls : Array Slot), qf_Model_at_b15 n u x1 x2 x3 = some (r, u9) → lv_has ls 6 [(0, .ref (g.2.1 0)), (1, .int x1), (2, .int x2), (3, .int x3)] → va_P g.1 xx_cls (qm_W g u) H → va_D A (qm_W g u) → va_S A s.heap H locs → W p l e (xx_rm 0 0) s m args below meth c H locs 0 0 (MQ below (xx_Q g.1 (qm_T g) (qm_W g) (some (.int r)) u9 A) args s 0 0 A) (F0 m 15 ls []) := by
  have hx := C.1
  have hb := C.2.1
  have hown := C.2.2.2.1
  have hts := C.2.2.2.2.1
  intro n
  induction n with
  | zero =>
    intro u x1 x2 x3 H locs ls hF
    rw [qf_Model_at_b15] at hF
    cases hF
  | succ n ih =>
    intro u x1 x2 x3 H locs ls hF hl hP hD hS
    rw [qf_Model_at_b15] at hF
    refine lv_iload_n hx hb qd_Model_at_15 rfl (lv_at hl 3 rfl) ?_
    refine lv_iload_n hx hb qd_Model_at_16 rfl (lv_at hl 1 rfl) ?_
    refine lv_icmp_gt (tgt := 120) hx hb qd_Model_at_17 (by decide) (fun hc => ?_) (fun hc => ?_)
    · have hF := xx_ip hc hF
      refine lv_iconst (v := (-1 : Int32)) hx hb qd_Model_at_120 (by decide) ?_
      exact xx_iret C hF hK hP hD hS qd_Model_at_121
    · have hF := xx_in' hc hF
      refine lv_iconst (v := (-1 : Int32)) hx hb qd_Model_at_20 (by decide) ?_
      obtain ⟨v1, ev1, hF⟩ := xx_nm_some hF
      refine xx_topi ev1 ?_
      refine lv_istore hx hb qd_Model_at_21 hl (by decide) rfl (fun ls hl => ?_)
      refine lv_iconst (v := (0 : Int32)) hx hb qd_Model_at_23 (by decide) ?_
      obtain ⟨v2, ev2, hF⟩ := xx_nm_some hF
      refine xx_topi ev2 ?_
      refine lv_istore hx hb qd_Model_at_24 hl (by decide) rfl (fun ls hl => ?_)
      exact qw_Model_at_b26 C hA hK ih xx_fu u x1 x2 x3 v1 v2 _ _ _ hF (lv_sub hl [2, 3, 4, 5, 1, 0] rfl) hP hD hS
set_option maxHeartbeats 4000000 in
set_option maxRecDepth 100000 in
theorem qc_Model_at (l : Launch) (g : xx_G) (u : qm_S) (x1 : Int32) (r : Int32) (u9 : qm_S) (hF : qf_Model_at u x1 = some (r, u9)) : xx_M l g.1 (qm_T g) (qm_W g) ky_Model_at kb_Model_at 6 (some .int) (xx_rm 0 0) [.ref (g.2.1 0), .int x1] u (some (.int r)) u9 := by
  refine xx_body (by decide) (Nat.le_of_ble_eq_true rfl) ?_
  intro p e s m args below meth c A ls C hin hK hl hA hP hD hS
  have hx := C.1
  have hb := C.2.1
  have hown := C.2.2.2.1
  have hts := C.2.2.2.2.1
  have hl : lv_has ls 6 [(0, .ref (g.2.1 0)), (1, .int x1)] := hl
  unfold qf_Model_at at hF
  refine lv_aload_n hx hb qd_Model_at_0 rfl (lv_at hl 0 rfl) ?_
  refine lv_iconst (v := (0 : Int32)) hx hb qd_Model_at_1 (by decide) ?_
  obtain ⟨u1, eu1, hF⟩ := xx_nm_some hF
  refine xx_put (ws1 := qm_W g u1) C ki_Model kt_Model ko_Model kn_Model hK hP hD hS 0 rfl rfl 0 (by decide) kw_873 rfl rfl rfl rfl (Nat.le_of_ble_eq_true rfl) (by rw [eu1]; rfl) qd_Model_at_2 (fun H locs hP hD hS => ?_)
  refine lv_iload_n hx hb qd_Model_at_5 rfl (lv_at hl 1 rfl) ?_
  refine lv_if_ge (tgt := 11) hx hb qd_Model_at_6 (by decide) (fun hc => ?_) (fun hc => ?_)
  · have hF := xx_ip hc hF
    refine lv_iconst (v := (0 : Int32)) hx hb qd_Model_at_11 (by decide) ?_
    obtain ⟨v2, ev2, hF⟩ := xx_nm_some hF
    refine xx_topi ev2 ?_
    refine lv_istore_n hx hb qd_Model_at_12 rfl hl (by decide) rfl (fun ls hl => ?_)
    refine lv_iconst (v := (0 : Int32)) hx hb qd_Model_at_13 (by decide) ?_
    obtain ⟨v3, ev3, hF⟩ := xx_nm_some hF
    refine xx_topi ev3 ?_
    refine lv_istore_n hx hb qd_Model_at_14 rfl hl (by decide) rfl (fun ls hl => ?_)
    exact qw_Model_at_b15 C hA hK xx_fu u1 x1 v2 v3 _ _ _ hF (lv_sub hl [2, 3, 1, 0] rfl) hP hD hS
  · have hF := xx_in' hc hF
    refine lv_iconst (v := (-1 : Int32)) hx hb qd_Model_at_9 (by decide) ?_
    exact xx_iret C hF hK hP hD hS qd_Model_at_10
set_option maxRecDepth 100000 in
theorem kw_978 : Cond.code ky_Model_guarded kb_Model_guarded 4 (some .boolean) ∈ xx_tb := xx_in (List.mem_append_right _ (List.mem_of_getElem? (i := 978) (by rfl))) (by decide +kernel)
theorem kw_975 : Cond.methodLink "ModuleLoaderModel" 64 ky_Model_guarded ∈ xx_tb := xx_in (List.mem_append_right _ (List.mem_of_getElem? (i := 975) (by decide +kernel))) (by decide +kernel)
theorem kw_977 : Cond.instanceMethod ky_Model_guarded ∈ xx_tb := xx_in (List.mem_append_right _ (List.mem_of_getElem? (i := 977) (by decide +kernel))) (by decide +kernel)
theorem ks_Model_guarded : Cond.selects "ModuleLoaderModel" ky_Model_guarded ky_Model_guarded ∈ xx_tb := xx_in (List.mem_append_left _ (by decide +kernel)) (by decide +kernel)
theorem kw_9 : Cond.initialized "ModuleLoaderModel" ∈ xx_tb := xx_in (List.mem_append_right _ (List.mem_of_getElem? (i := 9) (by decide +kernel))) (by decide +kernel)
theorem qd_Model_isProtected_0 : decode kb_Model_isProtected 0 = .ok (.aload_n 0, 1) := by decide +kernel
theorem qd_Model_isProtected_1 : decode kb_Model_isProtected 1 = .ok (.iconst 0, 1) := by decide +kernel
theorem qd_Model_isProtected_2 : decode kb_Model_isProtected 2 = .ok (.putfield 57, 3) := by decide +kernel
theorem qd_Model_isProtected_5 : decode kb_Model_isProtected 5 = .ok (.aload_n 0, 1) := by decide +kernel
theorem qd_Model_isProtected_6 : decode kb_Model_isProtected 6 = .ok (.iload_n 1, 1) := by decide +kernel
theorem qd_Model_isProtected_7 : decode kb_Model_isProtected 7 = .ok (.invokevirtual 64, 3) := by decide +kernel
theorem qd_Model_isProtected_10 : decode kb_Model_isProtected 10 = .ok (.ireturn, 1) := by decide +kernel
def qf_Model_isProtected (u : qm_S) (x1 : Int32) : Option (Int32 × qm_S) := xx_nm (va_up u.1 0 (0 : Int32), u.2) fun u1 => xx_b2 (qf_Model_guarded u1 x1) fun v3 u2 => some (vp_nar .boolean v3, u2)
set_option maxHeartbeats 4000000 in
set_option maxRecDepth 100000 in
theorem qc_Model_isProtected (l : Launch) (g : xx_G) (u : qm_S) (x1 : Int32) (r : Int32) (u9 : qm_S) (hF : qf_Model_isProtected u x1 = some (r, u9)) : xx_M l g.1 (qm_T g) (qm_W g) ky_Model_isProtected kb_Model_isProtected 2 (some .boolean) (xx_rm 1 23) [.ref (g.2.1 0), .int x1] u (some (.int r)) u9 := by
  refine xx_body (by decide) (Nat.le_of_ble_eq_true rfl) ?_
  intro p e s m args below meth c A ls C hin hK hl hA hP hD hS
  have hx := C.1
  have hb := C.2.1
  have hown := C.2.2.2.1
  have hts := C.2.2.2.2.1
  have hl : lv_has ls 2 [(0, .ref (g.2.1 0)), (1, .int x1)] := hl
  unfold qf_Model_isProtected at hF
  refine lv_aload_n hx hb qd_Model_isProtected_0 rfl (lv_at hl 0 rfl) ?_
  refine lv_iconst (v := (0 : Int32)) hx hb qd_Model_isProtected_1 (by decide) ?_
  obtain ⟨u1, eu1, hF⟩ := xx_nm_some hF
  refine xx_put (ws1 := qm_W g u1) C ki_Model kt_Model ko_Model kn_Model hK hP hD hS 0 rfl rfl 0 (by decide) kw_873 rfl rfl rfl rfl (Nat.le_of_ble_eq_true rfl) (by rw [eu1]; rfl) qd_Model_isProtected_2 (fun H locs hP hD hS => ?_)
  refine lv_aload_n hx hb qd_Model_isProtected_5 rfl (lv_at hl 0 rfl) ?_
  refine lv_iload_n hx hb qd_Model_isProtected_6 rfl (lv_at hl 1 rfl) ?_
  obtain ⟨v3, u2, eu2, hF⟩ := xx_b2_some hF
  refine xx_callV (n := 1) (As := [.int x1]) (rest := []) C (qc_Model_guarded l g u1 x1 v3 u2 eu2) ⟨kw_978, kw_975, kw_977, ks_Model_guarded, kw_9⟩ ⟨by decide +kernel, by decide +kernel, by decide +kernel⟩ rfl ⟨Nat.le_of_ble_eq_true rfl, Nat.le_of_ble_eq_true rfl⟩ 0 rfl rfl hl.1 rfl (Nat.le_of_ble_eq_true rfl) hA hK hP hD hS ⟨Nat.le_refl _, Nat.le_refl _⟩ rfl rfl rfl qd_Model_isProtected_7 (fun H locs hP hD hS => ?_)
  exact xx_zret C hF hK hP hD hS qd_Model_isProtected_10
set_option maxRecDepth 100000 in
theorem kw_989 : Cond.code ky_Model_put kb_Model_put 5 none ∈ xx_tb := xx_in (List.mem_append_right _ (List.mem_of_getElem? (i := 989) (by rfl))) (by decide +kernel)
theorem kw_986 : Cond.methodLink "ModuleLoaderModel" 72 ky_Model_put ∈ xx_tb := xx_in (List.mem_append_right _ (List.mem_of_getElem? (i := 986) (by decide +kernel))) (by decide +kernel)
theorem kw_988 : Cond.instanceMethod ky_Model_put ∈ xx_tb := xx_in (List.mem_append_right _ (List.mem_of_getElem? (i := 988) (by decide +kernel))) (by decide +kernel)
theorem ks_Model_put : Cond.selects "ModuleLoaderModel" ky_Model_put ky_Model_put ∈ xx_tb := xx_in (List.mem_append_left _ (by decide +kernel)) (by decide +kernel)
set_option maxRecDepth 100000 in
theorem kw_985 : Cond.code ky_Model_isWord kb_Model_isWord 2 (some .boolean) ∈ xx_tb := xx_in (List.mem_append_right _ (List.mem_of_getElem? (i := 985) (by rfl))) (by decide +kernel)
theorem kw_983 : Cond.methodLink "ModuleLoaderModel" 68 ky_Model_isWord ∈ xx_tb := xx_in (List.mem_append_right _ (List.mem_of_getElem? (i := 983) (by decide +kernel))) (by decide +kernel)
theorem kw_984 : Cond.static ky_Model_isWord ∈ xx_tb := xx_in (List.mem_append_right _ (List.mem_of_getElem? (i := 984) (by decide +kernel))) (by decide +kernel)
theorem qd_Model_poke_0 : decode kb_Model_poke 0 = .ok (.aload_n 0, 1) := by decide +kernel
theorem qd_Model_poke_1 : decode kb_Model_poke 1 = .ok (.iload_n 1, 1) := by decide +kernel
theorem qd_Model_poke_2 : decode kb_Model_poke 2 = .ok (.sipush (512), 3) := by decide +kernel
theorem qd_Model_poke_5 : decode kb_Model_poke 5 = .ok (.invokestatic 68, 3) := by decide +kernel
theorem qd_Model_poke_8 : decode kb_Model_poke 8 = .ok (.ifCond .ne (7), 3) := by decide +kernel
theorem qd_Model_poke_11 : decode kb_Model_poke 11 = .ok (.iconst 1, 1) := by decide +kernel
theorem qd_Model_poke_12 : decode kb_Model_poke 12 = .ok (.goto (15), 3) := by decide +kernel
theorem qd_Model_poke_15 : decode kb_Model_poke 15 = .ok (.aload_n 0, 1) := by decide +kernel
theorem qd_Model_poke_16 : decode kb_Model_poke 16 = .ok (.getfield 60, 3) := by decide +kernel
theorem qd_Model_poke_19 : decode kb_Model_poke 19 = .ok (.ifCond .eq (7), 3) := by decide +kernel
theorem qd_Model_poke_22 : decode kb_Model_poke 22 = .ok (.iconst 2, 1) := by decide +kernel
theorem qd_Model_poke_23 : decode kb_Model_poke 23 = .ok (.goto (4), 3) := by decide +kernel
theorem qd_Model_poke_26 : decode kb_Model_poke 26 = .ok (.iconst 0, 1) := by decide +kernel
theorem qd_Model_poke_27 : decode kb_Model_poke 27 = .ok (.putfield 57, 3) := by decide +kernel
theorem qd_Model_poke_30 : decode kb_Model_poke 30 = .ok (.aload_n 0, 1) := by decide +kernel
theorem qd_Model_poke_31 : decode kb_Model_poke 31 = .ok (.getfield 57, 3) := by decide +kernel
theorem qd_Model_poke_34 : decode kb_Model_poke 34 = .ok (.ifCond .ne (10), 3) := by decide +kernel
theorem qd_Model_poke_37 : decode kb_Model_poke 37 = .ok (.aload_n 0, 1) := by decide +kernel
theorem qd_Model_poke_38 : decode kb_Model_poke 38 = .ok (.iload_n 1, 1) := by decide +kernel
theorem qd_Model_poke_39 : decode kb_Model_poke 39 = .ok (.iload_n 2, 1) := by decide +kernel
theorem qd_Model_poke_40 : decode kb_Model_poke 40 = .ok (.iconst 4, 1) := by decide +kernel
theorem qd_Model_poke_41 : decode kb_Model_poke 41 = .ok (.invokevirtual 72, 3) := by decide +kernel
theorem qd_Model_poke_44 : decode kb_Model_poke 44 = .ok (.return_, 1) := by decide +kernel
def qf_Model_poke_b44 (u : qm_S) : Option (qm_S) := some u
def qf_Model_poke_b27 (u : qm_S) (x1 : Int32) (x2 : Int32) (y1 : Int32) : Option (qm_S) := xx_nm (va_up u.1 0 y1, u.2) fun u1 => if (u1.1 0) = 0 then ((qf_Model_put u1 x1 x2 (4 : Int32)).bind fun u2 => qf_Model_poke_b44 u2) else (qf_Model_poke_b44 u1)
def qf_Model_poke (u : qm_S) (x1 : Int32) (x2 : Int32) : Option (qm_S) := xx_b2 (qf_Model_isWord u x1 (512 : Int32)) fun v2 u1 => if v2 = 0 then (qf_Model_poke_b27 u1 x1 x2 (1 : Int32)) else (if (u1.1 2) = 0 then (qf_Model_poke_b27 u1 x1 x2 (0 : Int32)) else (qf_Model_poke_b27 u1 x1 x2 (2 : Int32)))
set_option maxHeartbeats 4000000 in
set_option maxRecDepth 100000 in
theorem qw_Model_poke_b44 {p : Program} {l : Launch} {e : Env} {s : State} {m : MethodId} {args : Array Value} {below : List Frame} {meth : Method} {c : Code} {A : Nat → Prop} {g : xx_G} {u9 : qm_S} (C : xx_C p s m args meth c kb_Model_poke 3 kr_Model none) (hA : ∀ q, s.heap.size ≤ q → A q) (hK : va_K g.1 xx_cls (qm_T g) s) : ∀ (u : qm_S) (H : Heap) (locs : List Loc) (ls : Array Slot), qf_Model_poke_b44 u = some u9 → lv_has ls 3 [] → va_P g.1 xx_cls (qm_W g u) H → va_D A (qm_W g u) → va_S A s.heap H locs → W p l e (xx_rm 1 24) s m args below meth c H locs 0 0 (MQ below (xx_Q g.1 (qm_T g) (qm_W g) none u9 A) args s 0 0 A) (F0 m 44 ls []) := by
  have hx := C.1
  have hb := C.2.1
  have hown := C.2.2.2.1
  have hts := C.2.2.2.2.1
  intro u H locs ls hF hl hP hD hS
  unfold qf_Model_poke_b44 at hF
  exact xx_vret C hF hK hP hD hS qd_Model_poke_44
set_option maxHeartbeats 4000000 in
set_option maxRecDepth 100000 in
theorem qw_Model_poke_b27 {p : Program} {l : Launch} {e : Env} {s : State} {m : MethodId} {args : Array Value} {below : List Frame} {meth : Method} {c : Code} {A : Nat → Prop} {g : xx_G} {u9 : qm_S} (C : xx_C p s m args meth c kb_Model_poke 3 kr_Model none) (hA : ∀ q, s.heap.size ≤ q → A q) (hK : va_K g.1 xx_cls (qm_T g) s) : ∀ (u : qm_S) (x1 : Int32) (x2 : Int32) (y1 : Int32) (H : Heap) (locs : List Loc) (ls : Array Slot), qf_Model_poke_b27 u x1 x2 y1 = some u9 → lv_has ls 3 [(0, .ref (g.2.1 0)), (1, .int x1), (2, .int x2)] → va_P g.1 xx_cls (qm_W g u) H → va_D A (qm_W g u) → va_S A s.heap H locs → W p l e (xx_rm 1 24) s m args below meth c H locs 0 0 (MQ below (xx_Q g.1 (qm_T g) (qm_W g) none u9 A) args s 0 0 A) (F0 m 27 ls [.int y1, .ref (g.2.1 0)]) := by
  have hx := C.1
  have hb := C.2.1
  have hown := C.2.2.2.1
  have hts := C.2.2.2.2.1
  intro u x1 x2 y1 H locs ls hF hl hP hD hS
  unfold qf_Model_poke_b27 at hF
  obtain ⟨u1, eu1, hF⟩ := xx_nm_some hF
  refine xx_put (ws1 := qm_W g u1) C ki_Model kt_Model ko_Model kn_Model hK hP hD hS 0 rfl rfl 0 (by decide) kw_873 rfl rfl rfl rfl (Nat.le_of_ble_eq_true rfl) (by rw [eu1]; rfl) qd_Model_poke_27 (fun H locs hP hD hS => ?_)
  refine lv_aload_n hx hb qd_Model_poke_30 rfl (lv_at hl 0 rfl) ?_
  refine xx_get C ki_Model hK hP 0 rfl rfl 0 (by decide) kw_873 rfl rfl qd_Model_poke_31 ?_
  refine lv_if_ne (tgt := 44) hx hb qd_Model_poke_34 (by decide) (fun hc => ?_) (fun hc => ?_)
  · have hF := xx_in' hc hF
    exact qw_Model_poke_b44 C hA hK  u1 _ _ _ hF (lv_sub hl [] rfl) hP hD hS
  · have hF := xx_ip hc hF
    refine lv_aload_n hx hb qd_Model_poke_37 rfl (lv_at hl 0 rfl) ?_
    refine lv_iload_n hx hb qd_Model_poke_38 rfl (lv_at hl 1 rfl) ?_
    refine lv_iload_n hx hb qd_Model_poke_39 rfl (lv_at hl 2 rfl) ?_
    refine lv_iconst (v := (4 : Int32)) hx hb qd_Model_poke_40 (by decide) ?_
    obtain ⟨u2, eu2, hF⟩ := xx_ob hF
    refine xx_callV (n := 3) (As := [.int x1, .int x2, .int (4 : Int32)]) (rest := []) C (qc_Model_put l g u1 x1 x2 (4 : Int32) u2 eu2) ⟨kw_989, kw_986, kw_988, ks_Model_put, kw_9⟩ ⟨by decide +kernel, by decide +kernel, by decide +kernel⟩ rfl ⟨Nat.le_of_ble_eq_true rfl, Nat.le_of_ble_eq_true rfl⟩ 0 rfl rfl hl.1 rfl (Nat.le_of_ble_eq_true rfl) hA hK hP hD hS ⟨Nat.le_refl _, Nat.le_refl _⟩ rfl rfl rfl qd_Model_poke_41 (fun H locs hP hD hS => ?_)
    exact qw_Model_poke_b44 C hA hK  u2 _ _ _ hF (lv_sub hl [] rfl) hP hD hS
set_option maxHeartbeats 4000000 in
set_option maxRecDepth 100000 in
theorem qc_Model_poke (l : Launch) (g : xx_G) (u : qm_S) (x1 : Int32) (x2 : Int32) (u9 : qm_S) (hF : qf_Model_poke u x1 x2 = some u9) : xx_M l g.1 (qm_T g) (qm_W g) ky_Model_poke kb_Model_poke 3 none (xx_rm 1 24) [.ref (g.2.1 0), .int x1, .int x2] u none u9 := by
  refine xx_body (by decide) (Nat.le_of_ble_eq_true rfl) ?_
  intro p e s m args below meth c A ls C hin hK hl hA hP hD hS
  have hx := C.1
  have hb := C.2.1
  have hown := C.2.2.2.1
  have hts := C.2.2.2.2.1
  have hl : lv_has ls 3 [(0, .ref (g.2.1 0)), (1, .int x1), (2, .int x2)] := hl
  unfold qf_Model_poke at hF
  refine lv_aload_n hx hb qd_Model_poke_0 rfl (lv_at hl 0 rfl) ?_
  refine lv_iload_n hx hb qd_Model_poke_1 rfl (lv_at hl 1 rfl) ?_
  refine lv_sipush (v := (512 : Int32)) hx hb qd_Model_poke_2 (by decide) ?_
  obtain ⟨v2, u1, eu1, hF⟩ := xx_b2_some hF
  refine xx_callS (n := 2) (As := [.int x1, .int (512 : Int32)]) (rest := [.ref (g.2.1 0)]) C (qc_Model_isWord l g u x1 (512 : Int32) v2 u1 eu1) ⟨kw_985, kw_983, kw_984, kw_9⟩ ⟨by decide +kernel, by decide +kernel, by decide +kernel⟩ rfl ⟨Nat.le_of_ble_eq_true rfl, Nat.le_of_ble_eq_true rfl⟩ hl.1 rfl (Nat.le_of_ble_eq_true rfl) hA hK hP hD hS ⟨Nat.le_refl _, Nat.le_refl _⟩ rfl rfl rfl qd_Model_poke_5 (fun H locs hP hD hS => ?_)
  refine lv_if_ne (tgt := 15) hx hb qd_Model_poke_8 (by decide) (fun hc => ?_) (fun hc => ?_)
  · have hF := xx_in' hc hF
    refine lv_aload_n hx hb qd_Model_poke_15 rfl (lv_at hl 0 rfl) ?_
    refine xx_get C ki_Model hK hP 0 rfl rfl 2 (by decide) kw_875 rfl rfl qd_Model_poke_16 ?_
    refine lv_if_eq (tgt := 26) hx hb qd_Model_poke_19 (by decide) (fun hc => ?_) (fun hc => ?_)
    · have hF := xx_ip hc hF
      refine lv_iconst (v := (0 : Int32)) hx hb qd_Model_poke_26 (by decide) ?_
      exact qw_Model_poke_b27 C hA hK  u1 x1 x2 (0 : Int32) _ _ _ hF (lv_sub hl [0, 1, 2] rfl) hP hD hS
    · have hF := xx_in' hc hF
      refine lv_iconst (v := (2 : Int32)) hx hb qd_Model_poke_22 (by decide) ?_
      refine lv_goto (tgt := 27) hx hb qd_Model_poke_23 (by decide) ?_
      exact qw_Model_poke_b27 C hA hK  u1 x1 x2 (2 : Int32) _ _ _ hF (lv_sub hl [0, 1, 2] rfl) hP hD hS
  · have hF := xx_ip hc hF
    refine lv_iconst (v := (1 : Int32)) hx hb qd_Model_poke_11 (by decide) ?_
    refine lv_goto (tgt := 27) hx hb qd_Model_poke_12 (by decide) ?_
    exact qw_Model_poke_b27 C hA hK  u1 x1 x2 (1 : Int32) _ _ _ hF (lv_sub hl [0, 1, 2] rfl) hP hD hS
set_option maxRecDepth 100000 in
theorem kw_997 : Cond.code ky_Model_wordAt kb_Model_wordAt 2 (some .int) ∈ xx_tb := xx_in (List.mem_append_right _ (List.mem_of_getElem? (i := 997) (by rfl))) (by decide +kernel)
theorem kw_994 : Cond.methodLink "ModuleLoaderModel" 76 ky_Model_wordAt ∈ xx_tb := xx_in (List.mem_append_right _ (List.mem_of_getElem? (i := 994) (by decide +kernel))) (by decide +kernel)
theorem kw_996 : Cond.instanceMethod ky_Model_wordAt ∈ xx_tb := xx_in (List.mem_append_right _ (List.mem_of_getElem? (i := 996) (by decide +kernel))) (by decide +kernel)
theorem ks_Model_wordAt : Cond.selects "ModuleLoaderModel" ky_Model_wordAt ky_Model_wordAt ∈ xx_tb := xx_in (List.mem_append_left _ (by decide +kernel)) (by decide +kernel)
theorem qd_Model_peek_0 : decode kb_Model_peek 0 = .ok (.aload_n 0, 1) := by decide +kernel
theorem qd_Model_peek_1 : decode kb_Model_peek 1 = .ok (.iload_n 1, 1) := by decide +kernel
theorem qd_Model_peek_2 : decode kb_Model_peek 2 = .ok (.sipush (4096), 3) := by decide +kernel
theorem qd_Model_peek_5 : decode kb_Model_peek 5 = .ok (.invokestatic 68, 3) := by decide +kernel
theorem qd_Model_peek_8 : decode kb_Model_peek 8 = .ok (.ifCond .eq (7), 3) := by decide +kernel
theorem qd_Model_peek_11 : decode kb_Model_peek 11 = .ok (.iconst 0, 1) := by decide +kernel
theorem qd_Model_peek_12 : decode kb_Model_peek 12 = .ok (.goto (4), 3) := by decide +kernel
theorem qd_Model_peek_15 : decode kb_Model_peek 15 = .ok (.iconst 1, 1) := by decide +kernel
theorem qd_Model_peek_16 : decode kb_Model_peek 16 = .ok (.putfield 57, 3) := by decide +kernel
theorem qd_Model_peek_19 : decode kb_Model_peek 19 = .ok (.aload_n 0, 1) := by decide +kernel
theorem qd_Model_peek_20 : decode kb_Model_peek 20 = .ok (.getfield 57, 3) := by decide +kernel
theorem qd_Model_peek_23 : decode kb_Model_peek 23 = .ok (.ifCond .ne (11), 3) := by decide +kernel
theorem qd_Model_peek_26 : decode kb_Model_peek 26 = .ok (.aload_n 0, 1) := by decide +kernel
theorem qd_Model_peek_27 : decode kb_Model_peek 27 = .ok (.iload_n 1, 1) := by decide +kernel
theorem qd_Model_peek_28 : decode kb_Model_peek 28 = .ok (.invokevirtual 76, 3) := by decide +kernel
theorem qd_Model_peek_31 : decode kb_Model_peek 31 = .ok (.goto (4), 3) := by decide +kernel
theorem qd_Model_peek_34 : decode kb_Model_peek 34 = .ok (.iconst 0, 1) := by decide +kernel
theorem qd_Model_peek_35 : decode kb_Model_peek 35 = .ok (.ireturn, 1) := by decide +kernel
def qf_Model_peek_b35 (u : qm_S) (y0 : Int32) : Option (Int32 × qm_S) := some (y0, u)
def qf_Model_peek_b16 (u : qm_S) (x1 : Int32) (y1 : Int32) : Option (Int32 × qm_S) := xx_nm (va_up u.1 0 y1, u.2) fun u1 => if (u1.1 0) = 0 then (xx_b2 (qf_Model_wordAt u1 x1) fun v3 u2 => qf_Model_peek_b35 u2 v3) else (qf_Model_peek_b35 u1 (0 : Int32))
def qf_Model_peek (u : qm_S) (x1 : Int32) : Option (Int32 × qm_S) := xx_b2 (qf_Model_isWord u x1 (4096 : Int32)) fun v2 u1 => if v2 = 0 then (qf_Model_peek_b16 u1 x1 (1 : Int32)) else (qf_Model_peek_b16 u1 x1 (0 : Int32))
set_option maxHeartbeats 4000000 in
set_option maxRecDepth 100000 in
theorem qw_Model_peek_b35 {p : Program} {l : Launch} {e : Env} {s : State} {m : MethodId} {args : Array Value} {below : List Frame} {meth : Method} {c : Code} {A : Nat → Prop} {g : xx_G} {r : Int32} {u9 : qm_S} (C : xx_C p s m args meth c kb_Model_peek 2 kr_Model (some .int)) (hA : ∀ q, s.heap.size ≤ q → A q) (hK : va_K g.1 xx_cls (qm_T g) s) : ∀ (u : qm_S) (y0 : Int32) (H : Heap) (locs : List Loc) (ls : Array Slot), qf_Model_peek_b35 u y0 = some (r, u9) → lv_has ls 2 [] → va_P g.1 xx_cls (qm_W g u) H → va_D A (qm_W g u) → va_S A s.heap H locs → W p l e (xx_rm 1 21) s m args below meth c H locs 0 0 (MQ below (xx_Q g.1 (qm_T g) (qm_W g) (some (.int r)) u9 A) args s 0 0 A) (F0 m 35 ls [.int y0]) := by
  have hx := C.1
  have hb := C.2.1
  have hown := C.2.2.2.1
  have hts := C.2.2.2.2.1
  intro u y0 H locs ls hF hl hP hD hS
  unfold qf_Model_peek_b35 at hF
  exact xx_iret C hF hK hP hD hS qd_Model_peek_35
set_option maxHeartbeats 4000000 in
set_option maxRecDepth 100000 in
theorem qw_Model_peek_b16 {p : Program} {l : Launch} {e : Env} {s : State} {m : MethodId} {args : Array Value} {below : List Frame} {meth : Method} {c : Code} {A : Nat → Prop} {g : xx_G} {r : Int32} {u9 : qm_S} (C : xx_C p s m args meth c kb_Model_peek 2 kr_Model (some .int)) (hA : ∀ q, s.heap.size ≤ q → A q) (hK : va_K g.1 xx_cls (qm_T g) s) : ∀ (u : qm_S) (x1 : Int32) (y1 : Int32) (H : Heap) (locs : List Loc) (ls : Array Slot), qf_Model_peek_b16 u x1 y1 = some (r, u9) → lv_has ls 2 [(0, .ref (g.2.1 0)), (1, .int x1)] → va_P g.1 xx_cls (qm_W g u) H → va_D A (qm_W g u) → va_S A s.heap H locs → W p l e (xx_rm 1 21) s m args below meth c H locs 0 0 (MQ below (xx_Q g.1 (qm_T g) (qm_W g) (some (.int r)) u9 A) args s 0 0 A) (F0 m 16 ls [.int y1, .ref (g.2.1 0)]) := by
  have hx := C.1
  have hb := C.2.1
  have hown := C.2.2.2.1
  have hts := C.2.2.2.2.1
  intro u x1 y1 H locs ls hF hl hP hD hS
  unfold qf_Model_peek_b16 at hF
  obtain ⟨u1, eu1, hF⟩ := xx_nm_some hF
  refine xx_put (ws1 := qm_W g u1) C ki_Model kt_Model ko_Model kn_Model hK hP hD hS 0 rfl rfl 0 (by decide) kw_873 rfl rfl rfl rfl (Nat.le_of_ble_eq_true rfl) (by rw [eu1]; rfl) qd_Model_peek_16 (fun H locs hP hD hS => ?_)
  refine lv_aload_n hx hb qd_Model_peek_19 rfl (lv_at hl 0 rfl) ?_
  refine xx_get C ki_Model hK hP 0 rfl rfl 0 (by decide) kw_873 rfl rfl qd_Model_peek_20 ?_
  refine lv_if_ne (tgt := 34) hx hb qd_Model_peek_23 (by decide) (fun hc => ?_) (fun hc => ?_)
  · have hF := xx_in' hc hF
    refine lv_iconst (v := (0 : Int32)) hx hb qd_Model_peek_34 (by decide) ?_
    exact qw_Model_peek_b35 C hA hK  u1 (0 : Int32) _ _ _ hF (lv_sub hl [] rfl) hP hD hS
  · have hF := xx_ip hc hF
    refine lv_aload_n hx hb qd_Model_peek_26 rfl (lv_at hl 0 rfl) ?_
    refine lv_iload_n hx hb qd_Model_peek_27 rfl (lv_at hl 1 rfl) ?_
    obtain ⟨v3, u2, eu2, hF⟩ := xx_b2_some hF
    refine xx_callV (n := 1) (As := [.int x1]) (rest := []) C (qc_Model_wordAt l g u1 x1 v3 u2 eu2) ⟨kw_997, kw_994, kw_996, ks_Model_wordAt, kw_9⟩ ⟨by decide +kernel, by decide +kernel, by decide +kernel⟩ rfl ⟨Nat.le_of_ble_eq_true rfl, Nat.le_of_ble_eq_true rfl⟩ 0 rfl rfl hl.1 rfl (Nat.le_of_ble_eq_true rfl) hA hK hP hD hS ⟨Nat.le_refl _, Nat.le_refl _⟩ rfl rfl rfl qd_Model_peek_28 (fun H locs hP hD hS => ?_)
    refine lv_goto (tgt := 35) hx hb qd_Model_peek_31 (by decide) ?_
    exact qw_Model_peek_b35 C hA hK  u2 v3 _ _ _ hF (lv_sub hl [] rfl) hP hD hS
set_option maxHeartbeats 4000000 in
set_option maxRecDepth 100000 in
theorem qc_Model_peek (l : Launch) (g : xx_G) (u : qm_S) (x1 : Int32) (r : Int32) (u9 : qm_S) (hF : qf_Model_peek u x1 = some (r, u9)) : xx_M l g.1 (qm_T g) (qm_W g) ky_Model_peek kb_Model_peek 2 (some .int) (xx_rm 1 21) [.ref (g.2.1 0), .int x1] u (some (.int r)) u9 := by
  refine xx_body (by decide) (Nat.le_of_ble_eq_true rfl) ?_
  intro p e s m args below meth c A ls C hin hK hl hA hP hD hS
  have hx := C.1
  have hb := C.2.1
  have hown := C.2.2.2.1
  have hts := C.2.2.2.2.1
  have hl : lv_has ls 2 [(0, .ref (g.2.1 0)), (1, .int x1)] := hl
  unfold qf_Model_peek at hF
  refine lv_aload_n hx hb qd_Model_peek_0 rfl (lv_at hl 0 rfl) ?_
  refine lv_iload_n hx hb qd_Model_peek_1 rfl (lv_at hl 1 rfl) ?_
  refine lv_sipush (v := (4096 : Int32)) hx hb qd_Model_peek_2 (by decide) ?_
  obtain ⟨v2, u1, eu1, hF⟩ := xx_b2_some hF
  refine xx_callS (n := 2) (As := [.int x1, .int (4096 : Int32)]) (rest := [.ref (g.2.1 0)]) C (qc_Model_isWord l g u x1 (4096 : Int32) v2 u1 eu1) ⟨kw_985, kw_983, kw_984, kw_9⟩ ⟨by decide +kernel, by decide +kernel, by decide +kernel⟩ rfl ⟨Nat.le_of_ble_eq_true rfl, Nat.le_of_ble_eq_true rfl⟩ hl.1 rfl (Nat.le_of_ble_eq_true rfl) hA hK hP hD hS ⟨Nat.le_refl _, Nat.le_refl _⟩ rfl rfl rfl qd_Model_peek_5 (fun H locs hP hD hS => ?_)
  refine lv_if_eq (tgt := 15) hx hb qd_Model_peek_8 (by decide) (fun hc => ?_) (fun hc => ?_)
  · have hF := xx_ip hc hF
    refine lv_iconst (v := (1 : Int32)) hx hb qd_Model_peek_15 (by decide) ?_
    exact qw_Model_peek_b16 C hA hK  u1 x1 (1 : Int32) _ _ _ hF (lv_sub hl [0, 1] rfl) hP hD hS
  · have hF := xx_in' hc hF
    refine lv_iconst (v := (0 : Int32)) hx hb qd_Model_peek_11 (by decide) ?_
    refine lv_goto (tgt := 16) hx hb qd_Model_peek_12 (by decide) ?_
    exact qw_Model_peek_b16 C hA hK  u1 x1 (0 : Int32) _ _ _ hF (lv_sub hl [0, 1] rfl) hP hD hS
