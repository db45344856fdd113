theorem kw_193 : Cond.fieldLink "ModuleLoader" 58 "ModuleLoader" "report" "LModuleLoader$Report;" ∈ xx_tb := xx_in (List.mem_append_right _ (List.mem_of_getElem? (i := 193) (by decide +kernel))) (by decide +kernel)
theorem kw_167 : Cond.fieldLink "ModuleLoader" 146 "ModuleLoader$Report" "number" "I" ∈ xx_tb := xx_in (List.mem_append_right _ (List.mem_of_getElem? (i := 167) (by decide +kernel))) (by decide +kernel)
theorem kw_169 : Cond.fieldLink "ModuleLoader" 149 "ModuleLoader$Report" "which" "I" ∈ xx_tb := xx_in (List.mem_append_right _ (List.mem_of_getElem? (i := 169) (by decide +kernel))) (by decide +kernel)
theorem kw_171 : Cond.fieldLink "ModuleLoader" 152 "ModuleLoader$Report" "trap" "I" ∈ xx_tb := xx_in (List.mem_append_right _ (List.mem_of_getElem? (i := 171) (by decide +kernel))) (by decide +kernel)
theorem kw_173 : Cond.fieldLink "ModuleLoader" 155 "ModuleLoader$Report" "steps" "I" ∈ xx_tb := xx_in (List.mem_append_right _ (List.mem_of_getElem? (i := 173) (by decide +kernel))) (by decide +kernel)
theorem kw_175 : Cond.fieldLink "ModuleLoader" 158 "ModuleLoader$Report" "answer" "I" ∈ xx_tb := xx_in (List.mem_append_right _ (List.mem_of_getElem? (i := 175) (by decide +kernel))) (by decide +kernel)
theorem zd_Loader_fault_0 : decode kb_Loader_fault 0 = .ok (.iload_n 1, 1) := by decide +kernel
theorem zd_Loader_fault_1 : decode kb_Loader_fault 1 = .ok (.tableswitch (75) (0) (4) #[35, 43, 51, 59, 67], 35) := by decide +kernel
theorem zd_Loader_fault_36 : decode kb_Loader_fault 36 = .ok (.aload_n 0, 1) := by decide +kernel
theorem zd_Loader_fault_37 : decode kb_Loader_fault 37 = .ok (.getfield 58, 3) := by decide +kernel
theorem zd_Loader_fault_40 : decode kb_Loader_fault 40 = .ok (.getfield 146, 3) := by decide +kernel
theorem zd_Loader_fault_43 : decode kb_Loader_fault 43 = .ok (.ireturn, 1) := by decide +kernel
theorem zd_Loader_fault_44 : decode kb_Loader_fault 44 = .ok (.aload_n 0, 1) := by decide +kernel
theorem zd_Loader_fault_45 : decode kb_Loader_fault 45 = .ok (.getfield 58, 3) := by decide +kernel
theorem zd_Loader_fault_48 : decode kb_Loader_fault 48 = .ok (.getfield 149, 3) := by decide +kernel
theorem zd_Loader_fault_51 : decode kb_Loader_fault 51 = .ok (.ireturn, 1) := by decide +kernel
theorem zd_Loader_fault_52 : decode kb_Loader_fault 52 = .ok (.aload_n 0, 1) := by decide +kernel
theorem zd_Loader_fault_53 : decode kb_Loader_fault 53 = .ok (.getfield 58, 3) := by decide +kernel
theorem zd_Loader_fault_56 : decode kb_Loader_fault 56 = .ok (.getfield 152, 3) := by decide +kernel
theorem zd_Loader_fault_59 : decode kb_Loader_fault 59 = .ok (.ireturn, 1) := by decide +kernel
theorem zd_Loader_fault_60 : decode kb_Loader_fault 60 = .ok (.aload_n 0, 1) := by decide +kernel
theorem zd_Loader_fault_61 : decode kb_Loader_fault 61 = .ok (.getfield 58, 3) := by decide +kernel
theorem zd_Loader_fault_64 : decode kb_Loader_fault 64 = .ok (.getfield 155, 3) := by decide +kernel
theorem zd_Loader_fault_67 : decode kb_Loader_fault 67 = .ok (.ireturn, 1) := by decide +kernel
theorem zd_Loader_fault_68 : decode kb_Loader_fault 68 = .ok (.aload_n 0, 1) := by decide +kernel
theorem zd_Loader_fault_69 : decode kb_Loader_fault 69 = .ok (.getfield 58, 3) := by decide +kernel
theorem zd_Loader_fault_72 : decode kb_Loader_fault 72 = .ok (.getfield 158, 3) := by decide +kernel
theorem zd_Loader_fault_75 : decode kb_Loader_fault 75 = .ok (.ireturn, 1) := by decide +kernel
theorem zd_Loader_fault_76 : decode kb_Loader_fault 76 = .ok (.iconst (-1), 1) := by decide +kernel
theorem zd_Loader_fault_77 : decode kb_Loader_fault 77 = .ok (.ireturn, 1) := by decide +kernel
def zf_Loader_fault (u : zz_S) (x1 : Int32) : Option (Int32 × zz_S) := if x1 = 0 then (some ((u.1 17), u)) else (if x1 = 1 then (some ((u.1 18), u)) else (if x1 = 2 then (some ((u.1 19), u)) else (if x1 = 3 then (some ((u.1 20), u)) else (if x1 = 4 then (some ((u.1 21), u)) else (some ((-1 : Int32), u))))))
set_option maxHeartbeats 4000000 in
set_option maxRecDepth 100000 in
theorem zc_Loader_fault (l : Launch) (g : xx_G) (u : zz_S) (x1 : Int32) (r : Int32) (u9 : zz_S) (hF : zf_Loader_fault u x1 = some (r, u9)) : xx_M l g.1 (zz_T g) (zz_W g) ky_Loader_fault kb_Loader_fault 2 (some .int) (xx_rm 0 0) [.ref (g.2.1 0), .int x1] u (some (.int r)) u9 := by
  refine xx_body (by decide) (Nat.le_of_ble_eq_true rfl) ?_
  intro p e s m args below meth c A ls C hin hK hl hA hP hD hS
  have hx := C.1
  have hb := C.2.1
  have hown := C.2.2.2.1
  have hts := C.2.2.2.2.1
  have hl : lv_has ls 2 [(0, .ref (g.2.1 0)), (1, .int x1)] := hl
  unfold zf_Loader_fault at hF
  refine lv_iload_n hx hb zd_Loader_fault_0 rfl (lv_at hl 1 rfl) ?_
  by_cases hs0 : x1 = (0 : Int32)
  · have hF := xx_ip hs0 hF
    refine lv_tableIn (off := 35) (tgt := 36) hx hb zd_Loader_fault_1 (by rw [hs0]; decide) (by rw [hs0]; decide) (by rw [hs0]; rfl) (by decide) ?_
    refine lv_aload_n hx hb zd_Loader_fault_36 rfl (lv_at hl 0 rfl) ?_
    refine xx_get C ki_Loader hK hP 0 rfl rfl 6 (by decide) kw_193 rfl rfl zd_Loader_fault_37 ?_
    refine xx_get C ki_Report hK hP 13 rfl rfl 0 (by decide) kw_167 rfl rfl zd_Loader_fault_40 ?_
    exact xx_iret C hF hK hP hD hS zd_Loader_fault_43
  · have hF := xx_in' hs0 hF
    by_cases hs1 : x1 = (1 : Int32)
    · have hF := xx_ip hs1 hF
      refine lv_tableIn (off := 43) (tgt := 44) hx hb zd_Loader_fault_1 (by rw [hs1]; decide) (by rw [hs1]; decide) (by rw [hs1]; rfl) (by decide) ?_
      refine lv_aload_n hx hb zd_Loader_fault_44 rfl (lv_at hl 0 rfl) ?_
      refine xx_get C ki_Loader hK hP 0 rfl rfl 6 (by decide) kw_193 rfl rfl zd_Loader_fault_45 ?_
      refine xx_get C ki_Report hK hP 13 rfl rfl 1 (by decide) kw_169 rfl rfl zd_Loader_fault_48 ?_
      exact xx_iret C hF hK hP hD hS zd_Loader_fault_51
    · have hF := xx_in' hs1 hF
      by_cases hs2 : x1 = (2 : Int32)
      · have hF := xx_ip hs2 hF
        refine lv_tableIn (off := 51) (tgt := 52) hx hb zd_Loader_fault_1 (by rw [hs2]; decide) (by rw [hs2]; decide) (by rw [hs2]; rfl) (by decide) ?_
        refine lv_aload_n hx hb zd_Loader_fault_52 rfl (lv_at hl 0 rfl) ?_
        refine xx_get C ki_Loader hK hP 0 rfl rfl 6 (by decide) kw_193 rfl rfl zd_Loader_fault_53 ?_
        refine xx_get C ki_Report hK hP 13 rfl rfl 2 (by decide) kw_171 rfl rfl zd_Loader_fault_56 ?_
        exact xx_iret C hF hK hP hD hS zd_Loader_fault_59
      · have hF := xx_in' hs2 hF
        by_cases hs3 : x1 = (3 : Int32)
        · have hF := xx_ip hs3 hF
          refine lv_tableIn (off := 59) (tgt := 60) hx hb zd_Loader_fault_1 (by rw [hs3]; decide) (by rw [hs3]; decide) (by rw [hs3]; rfl) (by decide) ?_
          refine lv_aload_n hx hb zd_Loader_fault_60 rfl (lv_at hl 0 rfl) ?_
          refine xx_get C ki_Loader hK hP 0 rfl rfl 6 (by decide) kw_193 rfl rfl zd_Loader_fault_61 ?_
          refine xx_get C ki_Report hK hP 13 rfl rfl 3 (by decide) kw_173 rfl rfl zd_Loader_fault_64 ?_
          exact xx_iret C hF hK hP hD hS zd_Loader_fault_67
        · have hF := xx_in' hs3 hF
          by_cases hs4 : x1 = (4 : Int32)
          · have hF := xx_ip hs4 hF
            refine lv_tableIn (off := 67) (tgt := 68) hx hb zd_Loader_fault_1 (by rw [hs4]; decide) (by rw [hs4]; decide) (by rw [hs4]; rfl) (by decide) ?_
            refine lv_aload_n hx hb zd_Loader_fault_68 rfl (lv_at hl 0 rfl) ?_
            refine xx_get C ki_Loader hK hP 0 rfl rfl 6 (by decide) kw_193 rfl rfl zd_Loader_fault_69 ?_
            refine xx_get C ki_Report hK hP 13 rfl rfl 4 (by decide) kw_175 rfl rfl zd_Loader_fault_72 ?_
            exact xx_iret C hF hK hP hD hS zd_Loader_fault_75
          · have hF := xx_in' hs4 hF
            refine lv_tableOut (tgt := 76) hx hb zd_Loader_fault_1 (by have h0 := lv_neT (a := 0) hs0 (by decide); have h1 := lv_neT (a := 1) hs1 (by decide); have h2 := lv_neT (a := 2) hs2 (by decide); have h3 := lv_neT (a := 3) hs3 (by decide); have h4 := lv_neT (a := 4) hs4 (by decide); omega) (by decide) ?_
            refine lv_iconst (v := (-1 : Int32)) hx hb zd_Loader_fault_76 (by decide) ?_
            exact xx_iret C hF hK hP hD hS zd_Loader_fault_77
theorem zd_Loader_isName_0 : decode kb_Loader_isName 0 = .ok (.iconst 0, 1) := by decide +kernel
theorem zd_Loader_isName_1 : decode kb_Loader_isName 1 = .ok (.istore_n 1, 1) := by decide +kernel
theorem zd_Loader_isName_2 : decode kb_Loader_isName 2 = .ok (.iload_n 1, 1) := by decide +kernel
theorem zd_Loader_isName_3 : decode kb_Loader_isName 3 = .ok (.bipush (32), 2) := by decide +kernel
theorem zd_Loader_isName_5 : decode kb_Loader_isName 5 = .ok (.if_icmp .ge (31), 3) := by decide +kernel
theorem zd_Loader_isName_8 : decode kb_Loader_isName 8 = .ok (.iload_n 0, 1) := by decide +kernel
theorem zd_Loader_isName_9 : decode kb_Loader_isName 9 = .ok (.iload_n 1, 1) := by decide +kernel
theorem zd_Loader_isName_10 : decode kb_Loader_isName 10 = .ok (.iushr, 1) := by decide +kernel
theorem zd_Loader_isName_11 : decode kb_Loader_isName 11 = .ok (.sipush (255), 3) := by decide +kernel
theorem zd_Loader_isName_14 : decode kb_Loader_isName 14 = .ok (.iand, 1) := by decide +kernel
theorem zd_Loader_isName_15 : decode kb_Loader_isName 15 = .ok (.istore_n 2, 1) := by decide +kernel
theorem zd_Loader_isName_16 : decode kb_Loader_isName 16 = .ok (.iload_n 2, 1) := by decide +kernel
theorem zd_Loader_isName_17 : decode kb_Loader_isName 17 = .ok (.bipush (97), 2) := by decide +kernel
theorem zd_Loader_isName_19 : decode kb_Loader_isName 19 = .ok (.if_icmp .lt (9), 3) := by decide +kernel
theorem zd_Loader_isName_22 : decode kb_Loader_isName 22 = .ok (.iload_n 2, 1) := by decide +kernel
theorem zd_Loader_isName_23 : decode kb_Loader_isName 23 = .ok (.bipush (122), 2) := by decide +kernel
theorem zd_Loader_isName_25 : decode kb_Loader_isName 25 = .ok (.if_icmp .le (5), 3) := by decide +kernel
theorem zd_Loader_isName_28 : decode kb_Loader_isName 28 = .ok (.iconst 0, 1) := by decide +kernel
theorem zd_Loader_isName_29 : decode kb_Loader_isName 29 = .ok (.ireturn, 1) := by decide +kernel
theorem zd_Loader_isName_30 : decode kb_Loader_isName 30 = .ok (.iinc 1 (8), 3) := by decide +kernel
theorem zd_Loader_isName_33 : decode kb_Loader_isName 33 = .ok (.goto (-31), 3) := by decide +kernel
theorem zd_Loader_isName_36 : decode kb_Loader_isName 36 = .ok (.iconst 1, 1) := by decide +kernel
theorem zd_Loader_isName_37 : decode kb_Loader_isName 37 = .ok (.ireturn, 1) := by decide +kernel
def zf_Loader_isName_b28 (u : zz_S) : Option (Int32 × zz_S) := some (vp_nar .boolean (0 : Int32), u)
def zf_Loader_isName_b2 : Nat → zz_S → Int32 → Int32 → Option (Int32 × zz_S)
  | 0, _, _, _ => none
  | n + 1, u, x0, x1 => if (32 : Int32) ≤ x1 then (some (vp_nar .boolean (1 : Int32), u)) else (xx_nm ((xx_ush x0 x1) &&& (255 : Int32)) fun v1 => if v1 < (97 : Int32) then (zf_Loader_isName_b28 u) else (if v1 ≤ (122 : Int32) then (xx_nm (x1 + (8 : Int32)) fun v2 => (zf_Loader_isName_b2 n) u x0 v2) else (zf_Loader_isName_b28 u)))
def zf_Loader_isName (u : zz_S) (x0 : Int32) : Option (Int32 × zz_S) := xx_nm (0 : Int32) fun v1 => zf_Loader_isName_b2 xx_fu u x0 v1
set_option maxHeartbeats 4000000 in
set_option maxRecDepth 100000 in
theorem zw_Loader_isName_b28 {p : Program} {l : Launch} {e : Env} {s : State} {m : MethodId} {args : Array Value} {below : List Frame} {meth : Method} {c : Code} {A : Nat → Prop} {g : xx_G} {r : Int32} {u9 : zz_S} (C : xx_C p s m args meth c kb_Loader_isName 3 kr_Loader (some .boolean)) (hA : ∀ q, s.heap.size ≤ q → A q) (hK : va_K g.1 xx_cls (zz_T g) s) : ∀ (u : zz_S) (H : Heap) (locs : List Loc) (ls : Array Slot), zf_Loader_isName_b28 u = some (r, u9) → lv_has ls 3 [] → va_P g.1 xx_cls (zz_W g u) H → va_D A (zz_W g u) → va_S A s.heap H locs → W p l e (xx_rm 0 0) s m args below meth c H locs 0 0 (MQ below (xx_Q g.1 (zz_T g) (zz_W g) (some (.int r)) u9 A) args s 0 0 A) (F0 m 28 ls []) := by
  have hx := C.1
  have hb := C.2.1
  have hown := C.2.2.2.1
  have hts := C.2.2.2.2.1
  intro u H locs ls hF hl hP hD hS
  unfold zf_Loader_isName_b28 at hF
  refine lv_iconst (v := (0 : Int32)) hx hb zd_Loader_isName_28 (by decide) ?_
  exact xx_zret C hF hK hP hD hS zd_Loader_isName_29
set_option maxHeartbeats 4000000 in
set_option maxRecDepth 100000 in
theorem zw_Loader_isName_b2 {p : Program} {l : Launch} {e : Env} {s : State} {m : MethodId} {args : Array Value} {below : List Frame} {meth : Method} {c : Code} {A : Nat → Prop} {g : xx_G} {r : Int32} {u9 : zz_S} (C : xx_C p s m args meth c kb_Loader_isName 3 kr_Loader (some .boolean)) (hA : ∀ q, s.heap.size ≤ q → A q) (hK : va_K g.1 xx_cls (zz_T g) s) : ∀ (n : Nat), ∀ (u : zz_S) (x0 : Int32) (x1 : Int32) (H : Heap) (locs : List Loc) (ls : Array Slot), zf_Loader_isName_b2 n u x0 x1 = some (r, u9) → lv_has ls 3 [(0, .int x0), (1, .int x1)] → va_P g.1 xx_cls (zz_W g u) H → va_D A (zz_W g u) → va_S A s.heap H locs → W p l e (xx_rm 0 0) s m args below meth c H locs 0 0 (MQ below (xx_Q g.1 (zz_T g) (zz_W g) (some (.int r)) u9 A) args s 0 0 A) (F0 m 2 ls []) := by
  have hx := C.1
  have hb := C.2.1
  have hown := C.2.2.2.1
  have hts := C.2.2.2.2.1
  intro n
  induction n with
  | zero =>
    intro u x0 x1 H locs ls hF
    rw [zf_Loader_isName_b2] at hF
    cases hF
  | succ n ih =>
    intro u x0 x1 H locs ls hF hl hP hD hS
    rw [zf_Loader_isName_b2] at hF
    refine lv_iload_n hx hb zd_Loader_isName_2 rfl (lv_at hl 1 rfl) ?_
    refine lv_bipush (v := (32 : Int32)) hx hb zd_Loader_isName_3 (by decide) ?_
    refine lv_icmp_ge (tgt := 36) hx hb zd_Loader_isName_5 (by decide) (fun hc => ?_) (fun hc => ?_)
    · have hF := xx_ip hc hF
      refine lv_iconst (v := (1 : Int32)) hx hb zd_Loader_isName_36 (by decide) ?_
      exact xx_zret C hF hK hP hD hS zd_Loader_isName_37
    · have hF := xx_in' hc hF
      refine lv_iload_n hx hb zd_Loader_isName_8 rfl (lv_at hl 0 rfl) ?_
      refine lv_iload_n hx hb zd_Loader_isName_9 rfl (lv_at hl 1 rfl) ?_
      refine lv_iushr hx hb zd_Loader_isName_10 (xx_ush_eq x0 x1) ?_
      refine lv_sipush (v := (255 : Int32)) hx hb zd_Loader_isName_11 (by decide) ?_
      refine lv_iand hx hb zd_Loader_isName_14 ?_
      obtain ⟨v1, ev1, hF⟩ := xx_nm_some hF
      refine xx_topi ev1 ?_
      refine lv_istore_n hx hb zd_Loader_isName_15 rfl hl (by decide) rfl (fun ls hl => ?_)
      refine lv_iload_n hx hb zd_Loader_isName_16 rfl (lv_at hl 0 rfl) ?_
      refine lv_bipush (v := (97 : Int32)) hx hb zd_Loader_isName_17 (by decide) ?_
      refine lv_icmp_lt (tgt := 28) hx hb zd_Loader_isName_19 (by decide) (fun hc => ?_) (fun hc => ?_)
      · have hF := xx_ip hc hF
        exact zw_Loader_isName_b28 C hA hK  u _ _ _ hF (lv_sub hl [] rfl) hP hD hS
      · have hF := xx_in' hc hF
        refine lv_iload_n hx hb zd_Loader_isName_22 rfl (lv_at hl 0 rfl) ?_
        refine lv_bipush (v := (122 : Int32)) hx hb zd_Loader_isName_23 (by decide) ?_
        refine lv_icmp_le (tgt := 30) hx hb zd_Loader_isName_25 (by decide) (fun hc => ?_) (fun hc => ?_)
        · have hF := xx_ip hc hF
          obtain ⟨v2, ev2, hF⟩ := xx_nm_some hF
          refine lv_iinc (k := 2) (v := v2) hx hb zd_Loader_isName_30 hl rfl (by rw [ev2, xx_lit8]) (by decide) rfl (fun ls hl => ?_)
          refine lv_goto (tgt := 2) hx hb zd_Loader_isName_33 (by decide) ?_
          exact ih u x0 v2 _ _ _ hF (lv_sub hl [2, 0] rfl) hP hD hS
        · have hF := xx_in' hc hF
          exact zw_Loader_isName_b28 C hA hK  u _ _ _ hF (lv_sub hl [] rfl) hP hD hS
set_option maxHeartbeats 4000000 in
set_option maxRecDepth 100000 in
theorem zc_Loader_isName (l : Launch) (g : xx_G) (u : zz_S) (x0 : Int32) (r : Int32) (u9 : zz_S) (hF : zf_Loader_isName u x0 = some (r, u9)) : xx_M l g.1 (zz_T g) (zz_W g) ky_Loader_isName kb_Loader_isName 3 (some .boolean) (xx_rm 0 0) [.int x0] u (some (.int r)) u9 := by
  refine xx_body (by decide) (Nat.le_of_ble_eq_true rfl) ?_
  intro p e s m args below meth c A ls C hin hK hl hA hP hD hS
  have hx := C.1
  have hb := C.2.1
  have hown := C.2.2.2.1
  have hts := C.2.2.2.2.1
  have hl : lv_has ls 3 [(0, .int x0)] := hl
  unfold zf_Loader_isName at hF
  refine lv_iconst (v := (0 : Int32)) hx hb zd_Loader_isName_0 (by decide) ?_
  obtain ⟨v1, ev1, hF⟩ := xx_nm_some hF
  refine xx_topi ev1 ?_
  refine lv_istore_n hx hb zd_Loader_isName_1 rfl hl (by decide) rfl (fun ls hl => ?_)
  exact zw_Loader_isName_b2 C hA hK xx_fu u x0 v1 _ _ _ hF (lv_sub hl [1, 0] rfl) hP hD hS
theorem zd_Loader_isFuel_0 : decode kb_Loader_isFuel 0 = .ok (.iload_n 0, 1) := by decide +kernel
theorem zd_Loader_isFuel_1 : decode kb_Loader_isFuel 1 = .ok (.ifCond .lt (14), 3) := by decide +kernel
theorem zd_Loader_isFuel_4 : decode kb_Loader_isFuel 4 = .ok (.iload_n 0, 1) := by decide +kernel
theorem zd_Loader_isFuel_5 : decode kb_Loader_isFuel 5 = .ok (.sipush (2000), 3) := by decide +kernel
theorem zd_Loader_isFuel_8 : decode kb_Loader_isFuel 8 = .ok (.if_icmp .gt (7), 3) := by decide +kernel
theorem zd_Loader_isFuel_11 : decode kb_Loader_isFuel 11 = .ok (.iconst 1, 1) := by decide +kernel
theorem zd_Loader_isFuel_12 : decode kb_Loader_isFuel 12 = .ok (.goto (4), 3) := by decide +kernel
theorem zd_Loader_isFuel_15 : decode kb_Loader_isFuel 15 = .ok (.iconst 0, 1) := by decide +kernel
theorem zd_Loader_isFuel_16 : decode kb_Loader_isFuel 16 = .ok (.ireturn, 1) := by decide +kernel
def zf_Loader_isFuel_b16 (u : zz_S) (y0 : Int32) : Option (Int32 × zz_S) := some (vp_nar .boolean y0, u)
def zf_Loader_isFuel_b15 (u : zz_S) : Option (Int32 × zz_S) := zf_Loader_isFuel_b16 u (0 : Int32)
def zf_Loader_isFuel (u : zz_S) (x0 : Int32) : Option (Int32 × zz_S) := if x0 < 0 then (zf_Loader_isFuel_b15 u) else (if (2000 : Int32) < x0 then (zf_Loader_isFuel_b15 u) else (zf_Loader_isFuel_b16 u (1 : Int32)))
set_option maxHeartbeats 4000000 in
set_option maxRecDepth 100000 in
theorem zw_Loader_isFuel_b16 {p : Program} {l : Launch} {e : Env} {s : State} {m : MethodId} {args : Array Value} {below : List Frame} {meth : Method} {c : Code} {A : Nat → Prop} {g : xx_G} {r : Int32} {u9 : zz_S} (C : xx_C p s m args meth c kb_Loader_isFuel 1 kr_Loader (some .boolean)) (hA : ∀ q, s.heap.size ≤ q → A q) (hK : va_K g.1 xx_cls (zz_T g) s) : ∀ (u : zz_S) (y0 : Int32) (H : Heap) (locs : List Loc) (ls : Array Slot), zf_Loader_isFuel_b16 u y0 = some (r, u9) → lv_has ls 1 [] → va_P g.1 xx_cls (zz_W g u) H → va_D A (zz_W g u) → va_S A s.heap H locs → W p l e (xx_rm 0 0) s m args below meth c H locs 0 0 (MQ below (xx_Q g.1 (zz_T g) (zz_W g) (some (.int r)) u9 A) args s 0 0 A) (F0 m 16 ls [.int y0]) := by
  have hx := C.1
  have hb := C.2.1
  have hown := C.2.2.2.1
  have hts := C.2.2.2.2.1
  intro u y0 H locs ls hF hl hP hD hS
  unfold zf_Loader_isFuel_b16 at hF
  exact xx_zret C hF hK hP hD hS zd_Loader_isFuel_16
set_option maxHeartbeats 4000000 in
set_option maxRecDepth 100000 in
theorem zw_Loader_isFuel_b15 {p : Program} {l : Launch} {e : Env} {s : State} {m : MethodId} {args : Array Value} {below : List Frame} {meth : Method} {c : Code} {A : Nat → Prop} {g : xx_G} {r : Int32} {u9 : zz_S} (C : xx_C p s m args meth c kb_Loader_isFuel 1 kr_Loader (some .boolean)) (hA : ∀ q, s.heap.size ≤ q → A q) (hK : va_K g.1 xx_cls (zz_T g) s) : ∀ (u : zz_S) (H : Heap) (locs : List Loc) (ls : Array Slot), zf_Loader_isFuel_b15 u = some (r, u9) → lv_has ls 1 [] → va_P g.1 xx_cls (zz_W g u) H → va_D A (zz_W g u) → va_S A s.heap H locs → W p l e (xx_rm 0 0) s m args below meth c H locs 0 0 (MQ below (xx_Q g.1 (zz_T g) (zz_W g) (some (.int r)) u9 A) args s 0 0 A) (F0 m 15 ls []) := by
  have hx := C.1
  have hb := C.2.1
  have hown := C.2.2.2.1
  have hts := C.2.2.2.2.1
  intro u H locs ls hF hl hP hD hS
  unfold zf_Loader_isFuel_b15 at hF
  refine lv_iconst (v := (0 : Int32)) hx hb zd_Loader_isFuel_15 (by decide) ?_
  exact zw_Loader_isFuel_b16 C hA hK  u (0 : Int32) _ _ _ hF (lv_sub hl [] rfl) hP hD hS
set_option maxHeartbeats 4000000 in
set_option maxRecDepth 100000 in
theorem zc_Loader_isFuel (l : Launch) (g : xx_G) (u : zz_S) (x0 : Int32) (r : Int32) (u9 : zz_S) (hF : zf_Loader_isFuel u x0 = some (r, u9)) : xx_M l g.1 (zz_T g) (zz_W g) ky_Loader_isFuel kb_Loader_isFuel 1 (some .boolean) (xx_rm 0 0) [.int x0] u (some (.int r)) u9 := by
  refine xx_body (by decide) (Nat.le_of_ble_eq_true rfl) ?_
  intro p e s m args below meth c A ls C hin hK hl hA hP hD hS
  have hx := C.1
  have hb := C.2.1
  have hown := C.2.2.2.1
  have hts := C.2.2.2.2.1
  have hl : lv_has ls 1 [(0, .int x0)] := hl
  unfold zf_Loader_isFuel at hF
  refine lv_iload_n hx hb zd_Loader_isFuel_0 rfl (lv_at hl 0 rfl) ?_
  refine lv_if_lt (tgt := 15) hx hb zd_Loader_isFuel_1 (by decide) (fun hc => ?_) (fun hc => ?_)
  · have hF := xx_ip hc hF
    exact zw_Loader_isFuel_b15 C hA hK  u _ _ _ hF (lv_sub hl [] rfl) hP hD hS
  · have hF := xx_in' hc hF
    refine lv_iload_n hx hb zd_Loader_isFuel_4 rfl (lv_at hl 0 rfl) ?_
    refine lv_sipush (v := (2000 : Int32)) hx hb zd_Loader_isFuel_5 (by decide) ?_
    refine lv_icmp_gt (tgt := 15) hx hb zd_Loader_isFuel_8 (by decide) (fun hc => ?_) (fun hc => ?_)
    · have hF := xx_ip hc hF
      exact zw_Loader_isFuel_b15 C hA hK  u _ _ _ hF (lv_sub hl [] rfl) hP hD hS
    · have hF := xx_in' hc hF
      refine lv_iconst (v := (1 : Int32)) hx hb zd_Loader_isFuel_11 (by decide) ?_
      refine lv_goto (tgt := 16) hx hb zd_Loader_isFuel_12 (by decide) ?_
      exact zw_Loader_isFuel_b16 C hA hK  u (1 : Int32) _ _ _ hF (lv_sub hl [] rfl) hP hD hS
theorem zd_Loader_isWordBelow_0 : decode kb_Loader_isWordBelow 0 = .ok (.iload_n 0, 1) := by decide +kernel
theorem zd_Loader_isWordBelow_1 : decode kb_Loader_isWordBelow 1 = .ok (.ifCond .lt (18), 3) := by decide +kernel
theorem zd_Loader_isWordBelow_4 : decode kb_Loader_isWordBelow 4 = .ok (.iload_n 0, 1) := by decide +kernel
theorem zd_Loader_isWordBelow_5 : decode kb_Loader_isWordBelow 5 = .ok (.iload_n 1, 1) := by decide +kernel
theorem zd_Loader_isWordBelow_6 : decode kb_Loader_isWordBelow 6 = .ok (.if_icmp .ge (13), 3) := by decide +kernel
theorem zd_Loader_isWordBelow_9 : decode kb_Loader_isWordBelow 9 = .ok (.iload_n 0, 1) := by decide +kernel
theorem zd_Loader_isWordBelow_10 : decode kb_Loader_isWordBelow 10 = .ok (.iconst 3, 1) := by decide +kernel
theorem zd_Loader_isWordBelow_11 : decode kb_Loader_isWordBelow 11 = .ok (.iand, 1) := by decide +kernel
theorem zd_Loader_isWordBelow_12 : decode kb_Loader_isWordBelow 12 = .ok (.ifCond .ne (7), 3) := by decide +kernel
theorem zd_Loader_isWordBelow_15 : decode kb_Loader_isWordBelow 15 = .ok (.iconst 1, 1) := by decide +kernel
theorem zd_Loader_isWordBelow_16 : decode kb_Loader_isWordBelow 16 = .ok (.goto (4), 3) := by decide +kernel
theorem zd_Loader_isWordBelow_19 : decode kb_Loader_isWordBelow 19 = .ok (.iconst 0, 1) := by decide +kernel
theorem zd_Loader_isWordBelow_20 : decode kb_Loader_isWordBelow 20 = .ok (.ireturn, 1) := by decide +kernel
def zf_Loader_isWordBelow_b20 (u : zz_S) (y0 : Int32) : Option (Int32 × zz_S) := some (vp_nar .boolean y0, u)
def zf_Loader_isWordBelow_b19 (u : zz_S) : Option (Int32 × zz_S) := zf_Loader_isWordBelow_b20 u (0 : Int32)
def zf_Loader_isWordBelow (u : zz_S) (x0 : Int32) (x1 : Int32) : Option (Int32 × zz_S) := if x0 < 0 then (zf_Loader_isWordBelow_b19 u) else (if x1 ≤ x0 then (zf_Loader_isWordBelow_b19 u) else (if (x0 &&& (3 : Int32)) = 0 then (zf_Loader_isWordBelow_b20 u (1 : Int32)) else (zf_Loader_isWordBelow_b19 u)))
set_option maxHeartbeats 4000000 in
set_option maxRecDepth 100000 in
theorem zw_Loader_isWordBelow_b20 {p : Program} {l : Launch} {e : Env} {s : State} {m : MethodId} {args : Array Value} {below : List Frame} {meth : Method} {c : Code} {A : Nat → Prop} {g : xx_G} {r : Int32} {u9 : zz_S} (C : xx_C p s m args meth c kb_Loader_isWordBelow 2 kr_Loader (some .boolean)) (hA : ∀ q, s.heap.size ≤ q → A q) (hK : va_K g.1 xx_cls (zz_T g) s) : ∀ (u : zz_S) (y0 : Int32) (H : Heap) (locs : List Loc) (ls : Array Slot), zf_Loader_isWordBelow_b20 u y0 = some (r, u9) → lv_has ls 2 [] → va_P g.1 xx_cls (zz_W g u) H → va_D A (zz_W g u) → va_S A s.heap H locs → W p l e (xx_rm 0 0) s m args below meth c H locs 0 0 (MQ below (xx_Q g.1 (zz_T g) (zz_W g) (some (.int r)) u9 A) args s 0 0 A) (F0 m 20 ls [.int y0]) := by
  have hx := C.1
  have hb := C.2.1
  have hown := C.2.2.2.1
  have hts := C.2.2.2.2.1
  intro u y0 H locs ls hF hl hP hD hS
  unfold zf_Loader_isWordBelow_b20 at hF
  exact xx_zret C hF hK hP hD hS zd_Loader_isWordBelow_20
set_option maxHeartbeats 4000000 in
set_option maxRecDepth 100000 in
theorem zw_Loader_isWordBelow_b19 {p : Program} {l : Launch} {e : Env} {s : State} {m : MethodId} {args : Array Value} {below : List Frame} {meth : Method} {c : Code} {A : Nat → Prop} {g : xx_G} {r : Int32} {u9 : zz_S} (C : xx_C p s m args meth c kb_Loader_isWordBelow 2 kr_Loader (some .boolean)) (hA : ∀ q, s.heap.size ≤ q → A q) (hK : va_K g.1 xx_cls (zz_T g) s) : ∀ (u : zz_S) (H : Heap) (locs : List Loc) (ls : Array Slot), zf_Loader_isWordBelow_b19 u = some (r, u9) → lv_has ls 2 [] → va_P g.1 xx_cls (zz_W g u) H → va_D A (zz_W g u) → va_S A s.heap H locs → W p l e (xx_rm 0 0) s m args below meth c H locs 0 0 (MQ below (xx_Q g.1 (zz_T g) (zz_W g) (some (.int r)) u9 A) args s 0 0 A) (F0 m 19 ls []) := by
  have hx := C.1
  have hb := C.2.1
  have hown := C.2.2.2.1
  have hts := C.2.2.2.2.1
  intro u H locs ls hF hl hP hD hS
  unfold zf_Loader_isWordBelow_b19 at hF
  refine lv_iconst (v := (0 : Int32)) hx hb zd_Loader_isWordBelow_19 (by decide) ?_
  exact zw_Loader_isWordBelow_b20 C hA hK  u (0 : Int32) _ _ _ hF (lv_sub hl [] rfl) hP hD hS
set_option maxHeartbeats 4000000 in
set_option maxRecDepth 100000 in
theorem zc_Loader_isWordBelow (l : Launch) (g : xx_G) (u : zz_S) (x0 : Int32) (x1 : Int32) (r : Int32) (u9 : zz_S) (hF : zf_Loader_isWordBelow u x0 x1 = some (r, u9)) : xx_M l g.1 (zz_T g) (zz_W g) ky_Loader_isWordBelow kb_Loader_isWordBelow 2 (some .boolean) (xx_rm 0 0) [.int x0, .int x1] u (some (.int r)) u9 := by
  refine xx_body (by decide) (Nat.le_of_ble_eq_true rfl) ?_
  intro p e s m args below meth c A ls C hin hK hl hA hP hD hS
  have hx := C.1
  have hb := C.2.1
  have hown := C.2.2.2.1
  have hts := C.2.2.2.2.1
  have hl : lv_has ls 2 [(0, .int x0), (1, .int x1)] := hl
  unfold zf_Loader_isWordBelow at hF
  refine lv_iload_n hx hb zd_Loader_isWordBelow_0 rfl (lv_at hl 0 rfl) ?_
  refine lv_if_lt (tgt := 19) hx hb zd_Loader_isWordBelow_1 (by decide) (fun hc => ?_) (fun hc => ?_)
  · have hF := xx_ip hc hF
    exact zw_Loader_isWordBelow_b19 C hA hK  u _ _ _ hF (lv_sub hl [] rfl) hP hD hS
  · have hF := xx_in' hc hF
    refine lv_iload_n hx hb zd_Loader_isWordBelow_4 rfl (lv_at hl 0 rfl) ?_
    refine lv_iload_n hx hb zd_Loader_isWordBelow_5 rfl (lv_at hl 1 rfl) ?_
    refine lv_icmp_ge (tgt := 19) hx hb zd_Loader_isWordBelow_6 (by decide) (fun hc => ?_) (fun hc => ?_)
    · have hF := xx_ip hc hF
      exact zw_Loader_isWordBelow_b19 C hA hK  u _ _ _ hF (lv_sub hl [] rfl) hP hD hS
    · have hF := xx_in' hc hF
      refine lv_iload_n hx hb zd_Loader_isWordBelow_9 rfl (lv_at hl 0 rfl) ?_
      refine lv_iconst (v := (3 : Int32)) hx hb zd_Loader_isWordBelow_10 (by decide) ?_
      refine lv_iand hx hb zd_Loader_isWordBelow_11 ?_
      refine lv_if_ne (tgt := 19) hx hb zd_Loader_isWordBelow_12 (by decide) (fun hc => ?_) (fun hc => ?_)
      · have hF := xx_in' hc hF
        exact zw_Loader_isWordBelow_b19 C hA hK  u _ _ _ hF (lv_sub hl [] rfl) hP hD hS
      · have hF := xx_ip hc hF
        refine lv_iconst (v := (1 : Int32)) hx hb zd_Loader_isWordBelow_15 (by decide) ?_
        refine lv_goto (tgt := 20) hx hb zd_Loader_isWordBelow_16 (by decide) ?_
        exact zw_Loader_isWordBelow_b20 C hA hK  u (1 : Int32) _ _ _ hF (lv_sub hl [] rfl) hP hD hS
theorem kw_693 : Cond.fieldLink "ModuleLoader$LoadedModule" 50 "ModuleLoader$LoadedModule" "neededUsed" "I" ∈ xx_tb := xx_in (List.mem_append_right _ (List.mem_of_getElem? (i := 693) (by decide +kernel))) (by decide +kernel)
theorem zd_LoadedModule_neededCount_0 : decode kb_LoadedModule_neededCount 0 = .ok (.aload_n 0, 1) := by decide +kernel
theorem zd_LoadedModule_neededCount_1 : decode kb_LoadedModule_neededCount 1 = .ok (.getfield 50, 3) := by decide +kernel
theorem zd_LoadedModule_neededCount_4 : decode kb_LoadedModule_neededCount 4 = .ok (.ireturn, 1) := by decide +kernel
def zf_LoadedModule_neededCount (u : zz_S) (x0 : Nat) : Option (Int32 × zz_S) := (zz_pi u x0 9 9).bind fun v1 => some (v1, u)
set_option maxHeartbeats 4000000 in
set_option maxRecDepth 100000 in
theorem zc_LoadedModule_neededCount (l : Launch) (g : xx_G) (u : zz_S) (x0 : Nat) (r : Int32) (u9 : zz_S) (hF : zf_LoadedModule_neededCount u x0 = some (r, u9)) : xx_M l g.1 (zz_T g) (zz_W g) ky_LoadedModule_neededCount kb_LoadedModule_neededCount 1 (some .int) (xx_rm 0 0) [.ref x0] u (some (.int r)) u9 := by
  refine xx_body (by decide) (Nat.le_of_ble_eq_true rfl) ?_
  intro p e s m args below meth c A ls C hin hK hl hA hP hD hS
  have hx := C.1
  have hb := C.2.1
  have hown := C.2.2.2.1
  have hts := C.2.2.2.2.1
  have hl : lv_has ls 1 [(0, .ref x0)] := hl
  unfold zf_LoadedModule_neededCount at hF
  refine lv_aload_n hx hb zd_LoadedModule_neededCount_0 rfl (lv_at hl 0 rfl) ?_
  obtain ⟨v1, ev1, hF⟩ := xx_ob hF
  refine zz_get (a := x0) (u := u) (ci := 9) C ki_LoadedModule hK hP rfl 9 (by decide) kw_693 rfl (zz_pi_some ev1) zd_LoadedModule_neededCount_1 ?_
  exact xx_iret C hF hK hP hD hS zd_LoadedModule_neededCount_4
theorem kw_692 : Cond.fieldLink "ModuleLoader$LoadedModule" 46 "ModuleLoader$LoadedModule" "needed" "[LModuleLoader$LoadedModule;" ∈ xx_tb := xx_in (List.mem_append_right _ (List.mem_of_getElem? (i := 692) (by decide +kernel))) (by decide +kernel)
theorem zd_LoadedModule_needs_0 : decode kb_LoadedModule_needs 0 = .ok (.iconst 0, 1) := by decide +kernel
theorem zd_LoadedModule_needs_1 : decode kb_LoadedModule_needs 1 = .ok (.istore_n 2, 1) := by decide +kernel
theorem zd_LoadedModule_needs_2 : decode kb_LoadedModule_needs 2 = .ok (.iload_n 2, 1) := by decide +kernel
theorem zd_LoadedModule_needs_3 : decode kb_LoadedModule_needs 3 = .ok (.aload_n 0, 1) := by decide +kernel
theorem zd_LoadedModule_needs_4 : decode kb_LoadedModule_needs 4 = .ok (.getfield 50, 3) := by decide +kernel
theorem zd_LoadedModule_needs_7 : decode kb_LoadedModule_needs 7 = .ok (.if_icmp .ge (21), 3) := by decide +kernel
theorem zd_LoadedModule_needs_10 : decode kb_LoadedModule_needs 10 = .ok (.aload_n 0, 1) := by decide +kernel
theorem zd_LoadedModule_needs_11 : decode kb_LoadedModule_needs 11 = .ok (.getfield 46, 3) := by decide +kernel
theorem zd_LoadedModule_needs_14 : decode kb_LoadedModule_needs 14 = .ok (.iload_n 2, 1) := by decide +kernel
theorem zd_LoadedModule_needs_15 : decode kb_LoadedModule_needs 15 = .ok (.aaload, 1) := by decide +kernel
theorem zd_LoadedModule_needs_16 : decode kb_LoadedModule_needs 16 = .ok (.aload_n 1, 1) := by decide +kernel
theorem zd_LoadedModule_needs_17 : decode kb_LoadedModule_needs 17 = .ok (.if_acmp .ne (5), 3) := by decide +kernel
theorem zd_LoadedModule_needs_20 : decode kb_LoadedModule_needs 20 = .ok (.iconst 1, 1) := by decide +kernel
theorem zd_LoadedModule_needs_21 : decode kb_LoadedModule_needs 21 = .ok (.ireturn, 1) := by decide +kernel
theorem zd_LoadedModule_needs_22 : decode kb_LoadedModule_needs 22 = .ok (.iinc 2 (1), 3) := by decide +kernel
theorem zd_LoadedModule_needs_25 : decode kb_LoadedModule_needs 25 = .ok (.goto (-23), 3) := by decide +kernel
theorem zd_LoadedModule_needs_28 : decode kb_LoadedModule_needs 28 = .ok (.iconst 0, 1) := by decide +kernel
theorem zd_LoadedModule_needs_29 : decode kb_LoadedModule_needs 29 = .ok (.ireturn, 1) := by decide +kernel
def zf_LoadedModule_needs_b2 : Nat → zz_S → Nat → Option Nat → Int32 → Option (Int32 × zz_S)
  | 0, _, _, _, _ => none
  | n + 1, u, x0, x1, x2 => (zz_pi u x0 9 9).bind fun v1 => if v1 ≤ x2 then (some (vp_nar .boolean (0 : Int32), u)) else ((zz_pr u x0 9 8).bind fun v2 => (zz_na u v2 x2).bind fun v3 => if v3 = x1 then (some (vp_nar .boolean (1 : Int32), u)) else (xx_nm (x2 + (1 : Int32)) fun v4 => (zf_LoadedModule_needs_b2 n) u x0 x1 v4))
def zf_LoadedModule_needs (u : zz_S) (x0 : Nat) (x1 : Option Nat) : Option (Int32 × zz_S) := xx_nm (0 : Int32) fun v1 => zf_LoadedModule_needs_b2 xx_fu u x0 x1 v1
set_option maxHeartbeats 4000000 in
set_option maxRecDepth 100000 in
theorem zw_LoadedModule_needs_b2 {p : Program} {l : Launch} {e : Env} {s : State} {m : MethodId} {args : Array Value} {below : List Frame} {meth : Method} {c : Code} {A : Nat → Prop} {g : xx_G} {r : Int32} {u9 : zz_S} (C : xx_C p s m args meth c kb_LoadedModule_needs 3 kr_LoadedModule (some .boolean)) (hA : ∀ q, s.heap.size ≤ q → A q) (hK : va_K g.1 xx_cls (zz_T g) s) : ∀ (n : Nat), ∀ (u : zz_S) (x0 : Nat) (x1 : Option Nat) (x2 : Int32) (H : Heap) (locs : List Loc) (ls : Array Slot), zf_LoadedModule_needs_b2 n u x0 x1 x2 = some (r, u9) → lv_has ls 3 [(0, .ref x0), (1, (va_rf x1)), (2, .int x2)] → va_P g.1 xx_cls (zz_W g u) H → va_D A (zz_W g u) → va_S A s.heap H locs → W p l e (xx_rm 0 0) s m args below meth c H locs 0 0 (MQ below (xx_Q g.1 (zz_T g) (zz_W g) (some (.int r)) u9 A) args s 0 0 A) (F0 m 2 ls []) := by
  have hx := C.1
  have hb := C.2.1
  have hown := C.2.2.2.1
  have hts := C.2.2.2.2.1
  intro n
  induction n with
  | zero =>
    intro u x0 x1 x2 H locs ls hF
    rw [zf_LoadedModule_needs_b2] at hF
    cases hF
  | succ n ih =>
    intro u x0 x1 x2 H locs ls hF hl hP hD hS
    rw [zf_LoadedModule_needs_b2] at hF
    refine lv_iload_n hx hb zd_LoadedModule_needs_2 rfl (lv_at hl 2 rfl) ?_
    refine lv_aload_n hx hb zd_LoadedModule_needs_3 rfl (lv_at hl 0 rfl) ?_
    obtain ⟨v1, ev1, hF⟩ := xx_ob hF
    refine zz_get (a := x0) (u := u) (ci := 9) C ki_LoadedModule hK hP rfl 9 (by decide) kw_693 rfl (zz_pi_some ev1) zd_LoadedModule_needs_4 ?_
    refine lv_icmp_ge (tgt := 28) hx hb zd_LoadedModule_needs_7 (by decide) (fun hc => ?_) (fun hc => ?_)
    · have hF := xx_ip hc hF
      refine lv_iconst (v := (0 : Int32)) hx hb zd_LoadedModule_needs_28 (by decide) ?_
      exact xx_zret C hF hK hP hD hS zd_LoadedModule_needs_29
    · have hF := xx_in' hc hF
      refine lv_aload_n hx hb zd_LoadedModule_needs_10 rfl (lv_at hl 0 rfl) ?_
      obtain ⟨v2, ev2, hF⟩ := xx_ob hF
      refine zz_get (a := x0) (u := u) (ci := 9) C ki_LoadedModule hK hP rfl 8 (by decide) kw_692 rfl (zz_pr_some ev2) zd_LoadedModule_needs_11 ?_
      refine lv_iload_n hx hb zd_LoadedModule_needs_14 rfl (lv_at hl 2 rfl) ?_
      obtain ⟨v3, ev3, hF⟩ := xx_ob hF
      refine zz_nald C hK hP ev3 zd_LoadedModule_needs_15 ?_
      refine xx_ald C zd_LoadedModule_needs_16 rfl (lv_at hl 1 rfl) ?_
      refine lv_acmp_ne (rx := v3) (ry := x1) (tgt := 22) hx hb zd_LoadedModule_needs_17 (by decide) (fun hc => ?_) (fun hc => ?_)
      · have hF := xx_in' hc hF
        obtain ⟨v4, ev4, hF⟩ := xx_nm_some hF
        refine lv_iinc (lv' := [(2, .int v4), (0, .ref x0), (1, (va_rf x1))]) (k := 2) (v := v4) hx hb zd_LoadedModule_needs_22 hl rfl (by rw [ev4, xx_lit1]) (by decide) (by simp [xx_rfc, xx_ic, xx_rc]) (fun ls hl => ?_)
        refine lv_goto (tgt := 2) hx hb zd_LoadedModule_needs_25 (by decide) ?_
        exact ih u x0 x1 v4 _ _ _ hF (lv_sub hl [1, 2, 0] rfl) hP hD hS
      · have hF := xx_ip hc hF
        refine lv_iconst (v := (1 : Int32)) hx hb zd_LoadedModule_needs_20 (by decide) ?_
        exact xx_zret C hF hK hP hD hS zd_LoadedModule_needs_21
set_option maxHeartbeats 4000000 in
set_option maxRecDepth 100000 in
theorem zc_LoadedModule_needs (l : Launch) (g : xx_G) (u : zz_S) (x0 : Nat) (x1 : Option Nat) (r : Int32) (u9 : zz_S) (hF : zf_LoadedModule_needs u x0 x1 = some (r, u9)) : xx_M l g.1 (zz_T g) (zz_W g) ky_LoadedModule_needs kb_LoadedModule_needs 3 (some .boolean) (xx_rm 0 0) [.ref x0, (va_rf x1)] u (some (.int r)) u9 := by
  refine xx_body (by decide) (by simp [lg_sl, xx_rfc, xx_ic, xx_rc]) ?_
  intro p e s m args below meth c A ls C hin hK hl hA hP hD hS
  have hx := C.1
  have hb := C.2.1
  have hown := C.2.2.2.1
  have hts := C.2.2.2.2.1
  have hl : lv_has ls 3 [(0, .ref x0), (1, (va_rf x1))] := by simpa [lv_args, xx_rfc, xx_ic, xx_rc] using hl
  unfold zf_LoadedModule_needs at hF
  refine lv_iconst (v := (0 : Int32)) hx hb zd_LoadedModule_needs_0 (by decide) ?_
  obtain ⟨v1, ev1, hF⟩ := xx_nm_some hF
  refine xx_topi ev1 ?_
  refine lv_istore_n (lv' := [(2, .int v1), (0, .ref x0), (1, (va_rf x1))]) hx hb zd_LoadedModule_needs_1 rfl hl (by decide) (by simp [xx_rfc, xx_ic, xx_rc]) (fun ls hl => ?_)
  exact zw_LoadedModule_needs_b2 C hA hK xx_fu u x0 x1 v1 _ _ _ hF (lv_sub hl [1, 2, 0] rfl) hP hD hS
theorem kw_50 : Cond.fieldLink "ModuleLoader$Machine" 29 "ModuleLoader$Machine" "trap" "I" ∈ xx_tb := xx_in (List.mem_append_right _ (List.mem_of_getElem? (i := 50) (by decide +kernel))) (by decide +kernel)
theorem kw_56 : Cond.fieldLink "ModuleLoader$Machine" 25 "ModuleLoader$Machine" "next" "I" ∈ xx_tb := xx_in (List.mem_append_right _ (List.mem_of_getElem? (i := 56) (by decide +kernel))) (by decide +kernel)
theorem zd_Machine_hasReturned_0 : decode kb_Machine_hasReturned 0 = .ok (.aload_n 0, 1) := by decide +kernel
theorem zd_Machine_hasReturned_1 : decode kb_Machine_hasReturned 1 = .ok (.getfield 29, 3) := by decide +kernel
theorem zd_Machine_hasReturned_4 : decode kb_Machine_hasReturned 4 = .ok (.ifCond .ne (16), 3) := by decide +kernel
theorem zd_Machine_hasReturned_7 : decode kb_Machine_hasReturned 7 = .ok (.aload_n 0, 1) := by decide +kernel
theorem zd_Machine_hasReturned_8 : decode kb_Machine_hasReturned 8 = .ok (.getfield 25, 3) := by decide +kernel
theorem zd_Machine_hasReturned_11 : decode kb_Machine_hasReturned 11 = .ok (.bipush (-4), 2) := by decide +kernel
theorem zd_Machine_hasReturned_13 : decode kb_Machine_hasReturned 13 = .ok (.if_icmp .ne (7), 3) := by decide +kernel
theorem zd_Machine_hasReturned_16 : decode kb_Machine_hasReturned 16 = .ok (.iconst 1, 1) := by decide +kernel
theorem zd_Machine_hasReturned_17 : decode kb_Machine_hasReturned 17 = .ok (.goto (4), 3) := by decide +kernel
theorem zd_Machine_hasReturned_20 : decode kb_Machine_hasReturned 20 = .ok (.iconst 0, 1) := by decide +kernel
theorem zd_Machine_hasReturned_21 : decode kb_Machine_hasReturned 21 = .ok (.ireturn, 1) := by decide +kernel
def zf_Machine_hasReturned_b21 (u : zz_S) (y0 : Int32) : Option (Int32 × zz_S) := some (vp_nar .boolean y0, u)
def zf_Machine_hasReturned_b20 (u : zz_S) : Option (Int32 × zz_S) := zf_Machine_hasReturned_b21 u (0 : Int32)
def zf_Machine_hasReturned (u : zz_S) : Option (Int32 × zz_S) := if (u.1 1) = 0 then (if (u.1 3) = (-4 : Int32) then (zf_Machine_hasReturned_b21 u (1 : Int32)) else (zf_Machine_hasReturned_b20 u)) else (zf_Machine_hasReturned_b20 u)
set_option maxHeartbeats 4000000 in
set_option maxRecDepth 100000 in
theorem zw_Machine_hasReturned_b21 {p : Program} {l : Launch} {e : Env} {s : State} {m : MethodId} {args : Array Value} {below : List Frame} {meth : Method} {c : Code} {A : Nat → Prop} {g : xx_G} {r : Int32} {u9 : zz_S} (C : xx_C p s m args meth c kb_Machine_hasReturned 1 kr_Machine (some .boolean)) (hA : ∀ q, s.heap.size ≤ q → A q) (hK : va_K g.1 xx_cls (zz_T g) s) : ∀ (u : zz_S) (y0 : Int32) (H : Heap) (locs : List Loc) (ls : Array Slot), zf_Machine_hasReturned_b21 u y0 = some (r, u9) → lv_has ls 1 [] → va_P g.1 xx_cls (zz_W g u) H → va_D A (zz_W g u) → va_S A s.heap H locs → W p l e (xx_rm 0 0) s m args below meth c H locs 0 0 (MQ below (xx_Q g.1 (zz_T g) (zz_W g) (some (.int r)) u9 A) args s 0 0 A) (F0 m 21 ls [.int y0]) := by
  have hx := C.1
  have hb := C.2.1
  have hown := C.2.2.2.1
  have hts := C.2.2.2.2.1
  intro u y0 H locs ls hF hl hP hD hS
  unfold zf_Machine_hasReturned_b21 at hF
  exact xx_zret C hF hK hP hD hS zd_Machine_hasReturned_21
set_option maxHeartbeats 4000000 in
set_option maxRecDepth 100000 in
theorem zw_Machine_hasReturned_b20 {p : Program} {l : Launch} {e : Env} {s : State} {m : MethodId} {args : Array Value} {below : List Frame} {meth : Method} {c : Code} {A : Nat → Prop} {g : xx_G} {r : Int32} {u9 : zz_S} (C : xx_C p s m args meth c kb_Machine_hasReturned 1 kr_Machine (some .boolean)) (hA : ∀ q, s.heap.size ≤ q → A q) (hK : va_K g.1 xx_cls (zz_T g) s) : ∀ (u : zz_S) (H : Heap) (locs : List Loc) (ls : Array Slot), zf_Machine_hasReturned_b20 u = some (r, u9) → lv_has ls 1 [] → va_P g.1 xx_cls (zz_W g u) H → va_D A (zz_W g u) → va_S A s.heap H locs → W p l e (xx_rm 0 0) s m args below meth c H locs 0 0 (MQ below (xx_Q g.1 (zz_T g) (zz_W g) (some (.int r)) u9 A) args s 0 0 A) (F0 m 20 ls []) := by
  have hx := C.1
  have hb := C.2.1
  have hown := C.2.2.2.1
  have hts := C.2.2.2.2.1
  intro u H locs ls hF hl hP hD hS
  unfold zf_Machine_hasReturned_b20 at hF
  refine lv_iconst (v := (0 : Int32)) hx hb zd_Machine_hasReturned_20 (by decide) ?_
  exact zw_Machine_hasReturned_b21 C hA hK  u (0 : Int32) _ _ _ hF (lv_sub hl [] rfl) hP hD hS
set_option maxHeartbeats 4000000 in
set_option maxRecDepth 100000 in
theorem zc_Machine_hasReturned (l : Launch) (g : xx_G) (u : zz_S) (r : Int32) (u9 : zz_S) (hF : zf_Machine_hasReturned u = some (r, u9)) : xx_M l g.1 (zz_T g) (zz_W g) ky_Machine_hasReturned kb_Machine_hasReturned 1 (some .boolean) (xx_rm 0 0) [.ref (g.2.1 4)] u (some (.int r)) u9 := by
  refine xx_body (by decide) (Nat.le_of_ble_eq_true rfl) ?_
  intro p e s m args below meth c A ls C hin hK hl hA hP hD hS
  have hx := C.1
  have hb := C.2.1
  have hown := C.2.2.2.1
  have hts := C.2.2.2.2.1
  have hl : lv_has ls 1 [(0, .ref (g.2.1 4))] := hl
  unfold zf_Machine_hasReturned at hF
  refine lv_aload_n hx hb zd_Machine_hasReturned_0 rfl (lv_at hl 0 rfl) ?_
  refine xx_get C ki_Machine hK hP 4 rfl rfl 0 (by decide) kw_50 rfl rfl zd_Machine_hasReturned_1 ?_
  refine lv_if_ne (tgt := 20) hx hb zd_Machine_hasReturned_4 (by decide) (fun hc => ?_) (fun hc => ?_)
  · have hF := xx_in' hc hF
    exact zw_Machine_hasReturned_b20 C hA hK  u _ _ _ hF (lv_sub hl [] rfl) hP hD hS
  · have hF := xx_ip hc hF
    refine lv_aload_n hx hb zd_Machine_hasReturned_7 rfl (lv_at hl 0 rfl) ?_
    refine xx_get C ki_Machine hK hP 4 rfl rfl 4 (by decide) kw_56 rfl rfl zd_Machine_hasReturned_8 ?_
    refine lv_bipush (v := (-4 : Int32)) hx hb zd_Machine_hasReturned_11 (by decide) ?_
    refine lv_icmp_ne (tgt := 20) hx hb zd_Machine_hasReturned_13 (by decide) (fun hc => ?_) (fun hc => ?_)
    · have hF := xx_in' hc hF
      exact zw_Machine_hasReturned_b20 C hA hK  u _ _ _ hF (lv_sub hl [] rfl) hP hD hS
    · have hF := xx_ip hc hF
      refine lv_iconst (v := (1 : Int32)) hx hb zd_Machine_hasReturned_16 (by decide) ?_
      refine lv_goto (tgt := 21) hx hb zd_Machine_hasReturned_17 (by decide) ?_
      exact zw_Machine_hasReturned_b21 C hA hK  u (1 : Int32) _ _ _ hF (lv_sub hl [] rfl) hP hD hS
theorem kw_55 : Cond.fieldLink "ModuleLoader$Machine" 13 "ModuleLoader$Machine" "registers" "[I" ∈ xx_tb := xx_in (List.mem_append_right _ (List.mem_of_getElem? (i := 55) (by decide +kernel))) (by decide +kernel)
theorem zd_Machine_registerAfterRun_0 : decode kb_Machine_registerAfterRun 0 = .ok (.iload_n 1, 1) := by decide +kernel
theorem zd_Machine_registerAfterRun_1 : decode kb_Machine_registerAfterRun 1 = .ok (.ifCond .lt (18), 3) := by decide +kernel
theorem zd_Machine_registerAfterRun_4 : decode kb_Machine_registerAfterRun 4 = .ok (.iload_n 1, 1) := by decide +kernel
theorem zd_Machine_registerAfterRun_5 : decode kb_Machine_registerAfterRun 5 = .ok (.bipush (32), 2) := by decide +kernel
theorem zd_Machine_registerAfterRun_7 : decode kb_Machine_registerAfterRun 7 = .ok (.if_icmp .ge (12), 3) := by decide +kernel
theorem zd_Machine_registerAfterRun_10 : decode kb_Machine_registerAfterRun 10 = .ok (.aload_n 0, 1) := by decide +kernel
theorem zd_Machine_registerAfterRun_11 : decode kb_Machine_registerAfterRun 11 = .ok (.getfield 13, 3) := by decide +kernel
theorem zd_Machine_registerAfterRun_14 : decode kb_Machine_registerAfterRun 14 = .ok (.iload_n 1, 1) := by decide +kernel
theorem zd_Machine_registerAfterRun_15 : decode kb_Machine_registerAfterRun 15 = .ok (.iaload, 1) := by decide +kernel
theorem zd_Machine_registerAfterRun_16 : decode kb_Machine_registerAfterRun 16 = .ok (.goto (4), 3) := by decide +kernel
theorem zd_Machine_registerAfterRun_19 : decode kb_Machine_registerAfterRun 19 = .ok (.iconst 0, 1) := by decide +kernel
theorem zd_Machine_registerAfterRun_20 : decode kb_Machine_registerAfterRun 20 = .ok (.ireturn, 1) := by decide +kernel
def zf_Machine_registerAfterRun_b20 (u : zz_S) (y0 : Int32) : Option (Int32 × zz_S) := some (y0, u)
def zf_Machine_registerAfterRun_b19 (u : zz_S) : Option (Int32 × zz_S) := zf_Machine_registerAfterRun_b20 u (0 : Int32)
def zf_Machine_registerAfterRun (u : zz_S) (x1 : Int32) : Option (Int32 × zz_S) := if x1 < 0 then (zf_Machine_registerAfterRun_b19 u) else (if (32 : Int32) ≤ x1 then (zf_Machine_registerAfterRun_b19 u) else ((xx_ag (u.2.1 2) 32 x1).bind fun v1 => zf_Machine_registerAfterRun_b20 u v1))
set_option maxHeartbeats 4000000 in
set_option maxRecDepth 100000 in
theorem zw_Machine_registerAfterRun_b20 {p : Program} {l : Launch} {e : Env} {s : State} {m : MethodId} {args : Array Value} {below : List Frame} {meth : Method} {c : Code} {A : Nat → Prop} {g : xx_G} {r : Int32} {u9 : zz_S} (C : xx_C p s m args meth c kb_Machine_registerAfterRun 2 kr_Machine (some .int)) (hA : ∀ q, s.heap.size ≤ q → A q) (hK : va_K g.1 xx_cls (zz_T g) s) : ∀ (u : zz_S) (y0 : Int32) (H : Heap) (locs : List Loc) (ls : Array Slot), zf_Machine_registerAfterRun_b20 u y0 = some (r, u9) → lv_has ls 2 [] → va_P g.1 xx_cls (zz_W g u) H → va_D A (zz_W g u) → va_S A s.heap H locs → W p l e (xx_rm 0 0) s m args below meth c H locs 0 0 (MQ below (xx_Q g.1 (zz_T g) (zz_W g) (some (.int r)) u9 A) args s 0 0 A) (F0 m 20 ls [.int y0]) := by
  have hx := C.1
  have hb := C.2.1
  have hown := C.2.2.2.1
  have hts := C.2.2.2.2.1
  intro u y0 H locs ls hF hl hP hD hS
  unfold zf_Machine_registerAfterRun_b20 at hF
  exact xx_iret C hF hK hP hD hS zd_Machine_registerAfterRun_20
set_option maxHeartbeats 4000000 in
set_option maxRecDepth 100000 in
theorem zw_Machine_registerAfterRun_b19 {p : Program} {l : Launch} {e : Env} {s : State} {m : MethodId} {args : Array Value} {below : List Frame} {meth : Method} {c : Code} {A : Nat → Prop} {g : xx_G} {r : Int32} {u9 : zz_S} (C : xx_C p s m args meth c kb_Machine_registerAfterRun 2 kr_Machine (some .int)) (hA : ∀ q, s.heap.size ≤ q → A q) (hK : va_K g.1 xx_cls (zz_T g) s) : ∀ (u : zz_S) (H : Heap) (locs : List Loc) (ls : Array Slot), zf_Machine_registerAfterRun_b19 u = some (r, u9) → lv_has ls 2 [] → va_P g.1 xx_cls (zz_W g u) H → va_D A (zz_W g u) → va_S A s.heap H locs → W p l e (xx_rm 0 0) s m args below meth c H locs 0 0 (MQ below (xx_Q g.1 (zz_T g) (zz_W g) (some (.int r)) u9 A) args s 0 0 A) (F0 m 19 ls []) := by
  have hx := C.1
  have hb := C.2.1
  have hown := C.2.2.2.1
  have hts := C.2.2.2.2.1
  intro u H locs ls hF hl hP hD hS
  unfold zf_Machine_registerAfterRun_b19 at hF
  refine lv_iconst (v := (0 : Int32)) hx hb zd_Machine_registerAfterRun_19 (by decide) ?_
  exact zw_Machine_registerAfterRun_b20 C hA hK  u (0 : Int32) _ _ _ hF (lv_sub hl [] rfl) hP hD hS
set_option maxHeartbeats 4000000 in
set_option maxRecDepth 100000 in
theorem zc_Machine_registerAfterRun (l : Launch) (g : xx_G) (u : zz_S) (x1 : Int32) (r : Int32) (u9 : zz_S) (hF : zf_Machine_registerAfterRun u x1 = some (r, u9)) : xx_M l g.1 (zz_T g) (zz_W g) ky_Machine_registerAfterRun kb_Machine_registerAfterRun 2 (some .int) (xx_rm 0 0) [.ref (g.2.1 4), .int x1] u (some (.int r)) u9 := by
  refine xx_body (by decide) (Nat.le_of_ble_eq_true rfl) ?_
  intro p e s m args below meth c A ls C hin hK hl hA hP hD hS
  have hx := C.1
  have hb := C.2.1
  have hown := C.2.2.2.1
  have hts := C.2.2.2.2.1
  have hl : lv_has ls 2 [(0, .ref (g.2.1 4)), (1, .int x1)] := hl
  unfold zf_Machine_registerAfterRun at hF
  refine lv_iload_n hx hb zd_Machine_registerAfterRun_0 rfl (lv_at hl 1 rfl) ?_
  refine lv_if_lt (tgt := 19) hx hb zd_Machine_registerAfterRun_1 (by decide) (fun hc => ?_) (fun hc => ?_)
  · have hF := xx_ip hc hF
    exact zw_Machine_registerAfterRun_b19 C hA hK  u _ _ _ hF (lv_sub hl [] rfl) hP hD hS
  · have hF := xx_in' hc hF
    refine lv_iload_n hx hb zd_Machine_registerAfterRun_4 rfl (lv_at hl 1 rfl) ?_
    refine lv_bipush (v := (32 : Int32)) hx hb zd_Machine_registerAfterRun_5 (by decide) ?_
    refine lv_icmp_ge (tgt := 19) hx hb zd_Machine_registerAfterRun_7 (by decide) (fun hc => ?_) (fun hc => ?_)
    · have hF := xx_ip hc hF
      exact zw_Machine_registerAfterRun_b19 C hA hK  u _ _ _ hF (lv_sub hl [] rfl) hP hD hS
    · have hF := xx_in' hc hF
      refine lv_aload_n hx hb zd_Machine_registerAfterRun_10 rfl (lv_at hl 0 rfl) ?_
      refine xx_get C ki_Machine hK hP 4 rfl rfl 3 (by decide) kw_55 rfl rfl zd_Machine_registerAfterRun_11 ?_
      refine lv_iload_n hx hb zd_Machine_registerAfterRun_14 rfl (lv_at hl 1 rfl) ?_
      obtain ⟨v1, ev1, hF⟩ := xx_ob hF
      refine xx_iald C hK hP 5 0 rfl rfl ev1 zd_Machine_registerAfterRun_15 ?_
      refine lv_goto (tgt := 20) hx hb zd_Machine_registerAfterRun_16 (by decide) ?_
      exact zw_Machine_registerAfterRun_b20 C hA hK  u v1 _ _ _ hF (lv_sub hl [] rfl) hP hD hS
theorem zd_Machine_finish_0 : decode kb_Machine_finish 0 = .ok (.iload_n 1, 1) := by decide +kernel
theorem zd_Machine_finish_1 : decode kb_Machine_finish 1 = .ok (.bipush (7), 2) := by decide +kernel
theorem zd_Machine_finish_3 : decode kb_Machine_finish 3 = .ok (.iushr, 1) := by decide +kernel
theorem zd_Machine_finish_4 : decode kb_Machine_finish 4 = .ok (.bipush (31), 2) := by decide +kernel
theorem zd_Machine_finish_6 : decode kb_Machine_finish 6 = .ok (.iand, 1) := by decide +kernel
theorem zd_Machine_finish_7 : decode kb_Machine_finish 7 = .ok (.istore 4, 2) := by decide +kernel
theorem zd_Machine_finish_9 : decode kb_Machine_finish 9 = .ok (.iload 4, 2) := by decide +kernel
theorem zd_Machine_finish_11 : decode kb_Machine_finish 11 = .ok (.ifCond .eq (11), 3) := by decide +kernel
theorem zd_Machine_finish_14 : decode kb_Machine_finish 14 = .ok (.aload_n 0, 1) := by decide +kernel
theorem zd_Machine_finish_15 : decode kb_Machine_finish 15 = .ok (.getfield 13, 3) := by decide +kernel
theorem zd_Machine_finish_18 : decode kb_Machine_finish 18 = .ok (.iload 4, 2) := by decide +kernel
theorem zd_Machine_finish_20 : decode kb_Machine_finish 20 = .ok (.iload_n 2, 1) := by decide +kernel
theorem zd_Machine_finish_21 : decode kb_Machine_finish 21 = .ok (.iastore, 1) := by decide +kernel
theorem zd_Machine_finish_22 : decode kb_Machine_finish 22 = .ok (.aload_n 0, 1) := by decide +kernel
theorem zd_Machine_finish_23 : decode kb_Machine_finish 23 = .ok (.iload_n 3, 1) := by decide +kernel
theorem zd_Machine_finish_24 : decode kb_Machine_finish 24 = .ok (.putfield 25, 3) := by decide +kernel
theorem zd_Machine_finish_27 : decode kb_Machine_finish 27 = .ok (.iconst 0, 1) := by decide +kernel
theorem zd_Machine_finish_28 : decode kb_Machine_finish 28 = .ok (.ireturn, 1) := by decide +kernel
def zf_Machine_finish_b22 (u : zz_S) (x3 : Int32) : Option (Int32 × zz_S) := xx_nm (va_up u.1 3 x3, u.2) fun u1 => some ((0 : Int32), u1)
def zf_Machine_finish (u : zz_S) (x1 : Int32) (x2 : Int32) (x3 : Int32) : Option (Int32 × zz_S) := xx_nm ((xx_ush x1 (7 : Int32)) &&& (31 : Int32)) fun v1 => if v1 = 0 then (zf_Machine_finish_b22 u x3) else ((xx_as (u.2.1 2) 32 v1 x2).bind fun f2 => xx_nm (u.1, va_up u.2.1 2 f2, u.2.2) fun u3 => zf_Machine_finish_b22 u3 x3)
set_option maxHeartbeats 4000000 in
set_option maxRecDepth 100000 in
theorem zw_Machine_finish_b22 {p : Program} {l : Launch} {e : Env} {s : State} {m : MethodId} {args : Array Value} {below : List Frame} {meth : Method} {c : Code} {A : Nat → Prop} {g : xx_G} {r : Int32} {u9 : zz_S} (C : xx_C p s m args meth c kb_Machine_finish 5 kr_Machine (some .int)) (hA : ∀ q, s.heap.size ≤ q → A q) (hK : va_K g.1 xx_cls (zz_T g) s) : ∀ (u : zz_S) (x3 : Int32) (H : Heap) (locs : List Loc) (ls : Array Slot), zf_Machine_finish_b22 u x3 = some (r, u9) → lv_has ls 5 [(0, .ref (g.2.1 4)), (3, .int x3)] → va_P g.1 xx_cls (zz_W g u) H → va_D A (zz_W g u) → va_S A s.heap H locs → W p l e (xx_rm 0 0) s m args below meth c H locs 0 0 (MQ below (xx_Q g.1 (zz_T g) (zz_W g) (some (.int r)) u9 A) args s 0 0 A) (F0 m 22 ls []) := by
  have hx := C.1
  have hb := C.2.1
  have hown := C.2.2.2.1
  have hts := C.2.2.2.2.1
  intro u x3 H locs ls hF hl hP hD hS
  unfold zf_Machine_finish_b22 at hF
  refine lv_aload_n hx hb zd_Machine_finish_22 rfl (lv_at hl 0 rfl) ?_
  refine lv_iload_n hx hb zd_Machine_finish_23 rfl (lv_at hl 1 rfl) ?_
  obtain ⟨u1, eu1, hF⟩ := xx_nm_some hF
  refine xx_put (ws1 := zz_W g u1) C ki_Machine kt_Machine ko_Machine kn_Machine hK hP hD hS 4 rfl rfl 4 (by decide) kw_56 rfl rfl rfl rfl (Nat.le_of_ble_eq_true rfl) (by rw [eu1]; rfl) zd_Machine_finish_24 (fun H locs hP hD hS => ?_)
  refine lv_iconst (v := (0 : Int32)) hx hb zd_Machine_finish_27 (by decide) ?_
  exact xx_iret C hF hK hP hD hS zd_Machine_finish_28
set_option maxHeartbeats 4000000 in
set_option maxRecDepth 100000 in
theorem zc_Machine_finish (l : Launch) (g : xx_G) (u : zz_S) (x1 : Int32) (x2 : Int32) (x3 : Int32) (r : Int32) (u9 : zz_S) (hF : zf_Machine_finish u x1 x2 x3 = some (r, u9)) : xx_M l g.1 (zz_T g) (zz_W g) ky_Machine_finish kb_Machine_finish 5 (some .int) (xx_rm 0 0) [.ref (g.2.1 4), .int x1, .int x2, .int x3] u (some (.int r)) u9 := by
  refine xx_body (by decide) (Nat.le_of_ble_eq_true rfl) ?_
  intro p e s m args below meth c A ls C hin hK hl hA hP hD hS
  have hx := C.1
  have hb := C.2.1
  have hown := C.2.2.2.1
  have hts := C.2.2.2.2.1
  have hl : lv_has ls 5 [(0, .ref (g.2.1 4)), (1, .int x1), (2, .int x2), (3, .int x3)] := hl
  unfold zf_Machine_finish at hF
  refine lv_iload_n hx hb zd_Machine_finish_0 rfl (lv_at hl 1 rfl) ?_
  refine lv_bipush (v := (7 : Int32)) hx hb zd_Machine_finish_1 (by decide) ?_
  refine lv_iushr hx hb zd_Machine_finish_3 (xx_ush_eq x1 (7 : Int32)) ?_
  refine lv_bipush (v := (31 : Int32)) hx hb zd_Machine_finish_4 (by decide) ?_
  refine lv_iand hx hb zd_Machine_finish_6 ?_
  obtain ⟨v1, ev1, hF⟩ := xx_nm_some hF
  refine xx_topi ev1 ?_
  refine lv_istore hx hb zd_Machine_finish_7 hl (by decide) rfl (fun ls hl => ?_)
  refine lv_iload hx hb zd_Machine_finish_9 (lv_at hl 0 rfl) ?_
  refine lv_if_eq (tgt := 22) hx hb zd_Machine_finish_11 (by decide) (fun hc => ?_) (fun hc => ?_)
  · have hF := xx_ip hc hF
    exact zw_Machine_finish_b22 C hA hK  u x3 _ _ _ hF (lv_sub hl [1, 4] rfl) hP hD hS
  · have hF := xx_in' hc hF
    refine lv_aload_n hx hb zd_Machine_finish_14 rfl (lv_at hl 1 rfl) ?_
    refine xx_get C ki_Machine hK hP 4 rfl rfl 3 (by decide) kw_55 rfl rfl zd_Machine_finish_15 ?_
    refine lv_iload hx hb zd_Machine_finish_18 (lv_at hl 0 rfl) ?_
    refine lv_iload_n hx hb zd_Machine_finish_20 rfl (lv_at hl 3 rfl) ?_
    obtain ⟨f2, ef2, hF⟩ := xx_ob hF
    obtain ⟨u3, eu3, hF⟩ := xx_nm_some hF
    refine xx_iast (ws1 := zz_W g u3) C hK hP hD hS 5 0 rfl rfl ef2 (by rw [eu3]; rfl) zd_Machine_finish_21 (fun H locs hP hD hS => ?_)
    exact zw_Machine_finish_b22 C hA hK  u3 x3 _ _ _ hF (lv_sub hl [1, 4] rfl) hP hD hS
theorem zd_Machine_firstOf_0 : decode kb_Machine_firstOf 0 = .ok (.aload_n 0, 1) := by decide +kernel
theorem zd_Machine_firstOf_1 : decode kb_Machine_firstOf 1 = .ok (.getfield 13, 3) := by decide +kernel
theorem zd_Machine_firstOf_4 : decode kb_Machine_firstOf 4 = .ok (.iload_n 1, 1) := by decide +kernel
theorem zd_Machine_firstOf_5 : decode kb_Machine_firstOf 5 = .ok (.bipush (15), 2) := by decide +kernel
theorem zd_Machine_firstOf_7 : decode kb_Machine_firstOf 7 = .ok (.iushr, 1) := by decide +kernel
theorem zd_Machine_firstOf_8 : decode kb_Machine_firstOf 8 = .ok (.bipush (31), 2) := by decide +kernel
theorem zd_Machine_firstOf_10 : decode kb_Machine_firstOf 10 = .ok (.iand, 1) := by decide +kernel
theorem zd_Machine_firstOf_11 : decode kb_Machine_firstOf 11 = .ok (.iaload, 1) := by decide +kernel
theorem zd_Machine_firstOf_12 : decode kb_Machine_firstOf 12 = .ok (.ireturn, 1) := by decide +kernel
def zf_Machine_firstOf (u : zz_S) (x1 : Int32) : Option (Int32 × zz_S) := (xx_ag (u.2.1 2) 32 ((xx_ush x1 (15 : Int32)) &&& (31 : Int32))).bind fun v1 => some (v1, u)
set_option maxHeartbeats 4000000 in
set_option maxRecDepth 100000 in
theorem zc_Machine_firstOf (l : Launch) (g : xx_G) (u : zz_S) (x1 : Int32) (r : Int32) (u9 : zz_S) (hF : zf_Machine_firstOf u x1 = some (r, u9)) : xx_M l g.1 (zz_T g) (zz_W g) ky_Machine_firstOf kb_Machine_firstOf 2 (some .int) (xx_rm 0 0) [.ref (g.2.1 4), .int x1] u (some (.int r)) u9 := by
  refine xx_body (by decide) (Nat.le_of_ble_eq_true rfl) ?_
  intro p e s m args below meth c A ls C hin hK hl hA hP hD hS
  have hx := C.1
  have hb := C.2.1
  have hown := C.2.2.2.1
  have hts := C.2.2.2.2.1
  have hl : lv_has ls 2 [(0, .ref (g.2.1 4)), (1, .int x1)] := hl
  unfold zf_Machine_firstOf at hF
  refine lv_aload_n hx hb zd_Machine_firstOf_0 rfl (lv_at hl 0 rfl) ?_
  refine xx_get C ki_Machine hK hP 4 rfl rfl 3 (by decide) kw_55 rfl rfl zd_Machine_firstOf_1 ?_
  refine lv_iload_n hx hb zd_Machine_firstOf_4 rfl (lv_at hl 1 rfl) ?_
  refine lv_bipush (v := (15 : Int32)) hx hb zd_Machine_firstOf_5 (by decide) ?_
  refine lv_iushr hx hb zd_Machine_firstOf_7 (xx_ush_eq x1 (15 : Int32)) ?_
  refine lv_bipush (v := (31 : Int32)) hx hb zd_Machine_firstOf_8 (by decide) ?_
  refine lv_iand hx hb zd_Machine_firstOf_10 ?_
  obtain ⟨v1, ev1, hF⟩ := xx_ob hF
  refine xx_iald C hK hP 5 0 rfl rfl ev1 zd_Machine_firstOf_11 ?_
  exact xx_iret C hF hK hP hD hS zd_Machine_firstOf_12
theorem zd_Machine_secondOf_0 : decode kb_Machine_secondOf 0 = .ok (.aload_n 0, 1) := by decide +kernel
theorem zd_Machine_secondOf_1 : decode kb_Machine_secondOf 1 = .ok (.getfield 13, 3) := by decide +kernel
theorem zd_Machine_secondOf_4 : decode kb_Machine_secondOf 4 = .ok (.iload_n 1, 1) := by decide +kernel
theorem zd_Machine_secondOf_5 : decode kb_Machine_secondOf 5 = .ok (.bipush (20), 2) := by decide +kernel
theorem zd_Machine_secondOf_7 : decode kb_Machine_secondOf 7 = .ok (.iushr, 1) := by decide +kernel
theorem zd_Machine_secondOf_8 : decode kb_Machine_secondOf 8 = .ok (.bipush (31), 2) := by decide +kernel
theorem zd_Machine_secondOf_10 : decode kb_Machine_secondOf 10 = .ok (.iand, 1) := by decide +kernel
theorem zd_Machine_secondOf_11 : decode kb_Machine_secondOf 11 = .ok (.iaload, 1) := by decide +kernel
theorem zd_Machine_secondOf_12 : decode kb_Machine_secondOf 12 = .ok (.ireturn, 1) := by decide +kernel
def zf_Machine_secondOf (u : zz_S) (x1 : Int32) : Option (Int32 × zz_S) := (xx_ag (u.2.1 2) 32 ((xx_ush x1 (20 : Int32)) &&& (31 : Int32))).bind fun v1 => some (v1, u)
set_option maxHeartbeats 4000000 in
set_option maxRecDepth 100000 in
theorem zc_Machine_secondOf (l : Launch) (g : xx_G) (u : zz_S) (x1 : Int32) (r : Int32) (u9 : zz_S) (hF : zf_Machine_secondOf u x1 = some (r, u9)) : xx_M l g.1 (zz_T g) (zz_W g) ky_Machine_secondOf kb_Machine_secondOf 2 (some .int) (xx_rm 0 0) [.ref (g.2.1 4), .int x1] u (some (.int r)) u9 := by
  refine xx_body (by decide) (Nat.le_of_ble_eq_true rfl) ?_
  intro p e s m args below meth c A ls C hin hK hl hA hP hD hS
  have hx := C.1
  have hb := C.2.1
  have hown := C.2.2.2.1
  have hts := C.2.2.2.2.1
  have hl : lv_has ls 2 [(0, .ref (g.2.1 4)), (1, .int x1)] := hl
  unfold zf_Machine_secondOf at hF
  refine lv_aload_n hx hb zd_Machine_secondOf_0 rfl (lv_at hl 0 rfl) ?_
  refine xx_get C ki_Machine hK hP 4 rfl rfl 3 (by decide) kw_55 rfl rfl zd_Machine_secondOf_1 ?_
  refine lv_iload_n hx hb zd_Machine_secondOf_4 rfl (lv_at hl 1 rfl) ?_
  refine lv_bipush (v := (20 : Int32)) hx hb zd_Machine_secondOf_5 (by decide) ?_
  refine lv_iushr hx hb zd_Machine_secondOf_7 (xx_ush_eq x1 (20 : Int32)) ?_
  refine lv_bipush (v := (31 : Int32)) hx hb zd_Machine_secondOf_8 (by decide) ?_
  refine lv_iand hx hb zd_Machine_secondOf_10 ?_
  obtain ⟨v1, ev1, hF⟩ := xx_ob hF
  refine xx_iald C hK hP 5 0 rfl rfl ev1 zd_Machine_secondOf_11 ?_
  exact xx_iret C hF hK hP hD hS zd_Machine_secondOf_12
theorem zd_Machine_kindOf_0 : decode kb_Machine_kindOf 0 = .ok (.iload_n 0, 1) := by decide +kernel
theorem zd_Machine_kindOf_1 : decode kb_Machine_kindOf 1 = .ok (.bipush (12), 2) := by decide +kernel
theorem zd_Machine_kindOf_3 : decode kb_Machine_kindOf 3 = .ok (.iushr, 1) := by decide +kernel
theorem zd_Machine_kindOf_4 : decode kb_Machine_kindOf 4 = .ok (.bipush (7), 2) := by decide +kernel
theorem zd_Machine_kindOf_6 : decode kb_Machine_kindOf 6 = .ok (.iand, 1) := by decide +kernel
theorem zd_Machine_kindOf_7 : decode kb_Machine_kindOf 7 = .ok (.ireturn, 1) := by decide +kernel
def zf_Machine_kindOf (u : zz_S) (x0 : Int32) : Option (Int32 × zz_S) := some (((xx_ush x0 (12 : Int32)) &&& (7 : Int32)), u)
set_option maxHeartbeats 4000000 in
set_option maxRecDepth 100000 in
theorem zc_Machine_kindOf (l : Launch) (g : xx_G) (u : zz_S) (x0 : Int32) (r : Int32) (u9 : zz_S) (hF : zf_Machine_kindOf u x0 = some (r, u9)) : xx_M l g.1 (zz_T g) (zz_W g) ky_Machine_kindOf kb_Machine_kindOf 1 (some .int) (xx_rm 0 0) [.int x0] u (some (.int r)) u9 := by
  refine xx_body (by decide) (Nat.le_of_ble_eq_true rfl) ?_
  intro p e s m args below meth c A ls C hin hK hl hA hP hD hS
  have hx := C.1
  have hb := C.2.1
  have hown := C.2.2.2.1
  have hts := C.2.2.2.2.1
  have hl : lv_has ls 1 [(0, .int x0)] := hl
  unfold zf_Machine_kindOf at hF
  refine lv_iload_n hx hb zd_Machine_kindOf_0 rfl (lv_at hl 0 rfl) ?_
  refine lv_bipush (v := (12 : Int32)) hx hb zd_Machine_kindOf_1 (by decide) ?_
  refine lv_iushr hx hb zd_Machine_kindOf_3 (xx_ush_eq x0 (12 : Int32)) ?_
  refine lv_bipush (v := (7 : Int32)) hx hb zd_Machine_kindOf_4 (by decide) ?_
  refine lv_iand hx hb zd_Machine_kindOf_6 ?_
  exact xx_iret C hF hK hP hD hS zd_Machine_kindOf_7
theorem kw_758 : Cond.constant "ModuleLoader$Machine" 72 (1044480 : Int32) ∈ xx_tb := xx_in (List.mem_append_right _ (List.mem_of_getElem? (i := 758) (by decide +kernel))) (by decide +kernel)
theorem zd_Machine_jumpDistance_0 : decode kb_Machine_jumpDistance 0 = .ok (.iload_n 0, 1) := by decide +kernel
theorem zd_Machine_jumpDistance_1 : decode kb_Machine_jumpDistance 1 = .ok (.bipush (31), 2) := by decide +kernel
theorem zd_Machine_jumpDistance_3 : decode kb_Machine_jumpDistance 3 = .ok (.ishr, 1) := by decide +kernel
theorem zd_Machine_jumpDistance_4 : decode kb_Machine_jumpDistance 4 = .ok (.bipush (20), 2) := by decide +kernel
theorem zd_Machine_jumpDistance_6 : decode kb_Machine_jumpDistance 6 = .ok (.ishl, 1) := by decide +kernel
theorem zd_Machine_jumpDistance_7 : decode kb_Machine_jumpDistance 7 = .ok (.iload_n 0, 1) := by decide +kernel
theorem zd_Machine_jumpDistance_8 : decode kb_Machine_jumpDistance 8 = .ok (.ldc 72, 2) := by decide +kernel
theorem zd_Machine_jumpDistance_10 : decode kb_Machine_jumpDistance 10 = .ok (.iand, 1) := by decide +kernel
theorem zd_Machine_jumpDistance_11 : decode kb_Machine_jumpDistance 11 = .ok (.ior, 1) := by decide +kernel
theorem zd_Machine_jumpDistance_12 : decode kb_Machine_jumpDistance 12 = .ok (.iload_n 0, 1) := by decide +kernel
theorem zd_Machine_jumpDistance_13 : decode kb_Machine_jumpDistance 13 = .ok (.bipush (20), 2) := by decide +kernel
theorem zd_Machine_jumpDistance_15 : decode kb_Machine_jumpDistance 15 = .ok (.iushr, 1) := by decide +kernel
theorem zd_Machine_jumpDistance_16 : decode kb_Machine_jumpDistance 16 = .ok (.iconst 1, 1) := by decide +kernel
theorem zd_Machine_jumpDistance_17 : decode kb_Machine_jumpDistance 17 = .ok (.iand, 1) := by decide +kernel
theorem zd_Machine_jumpDistance_18 : decode kb_Machine_jumpDistance 18 = .ok (.bipush (11), 2) := by decide +kernel
theorem zd_Machine_jumpDistance_20 : decode kb_Machine_jumpDistance 20 = .ok (.ishl, 1) := by decide +kernel
theorem zd_Machine_jumpDistance_21 : decode kb_Machine_jumpDistance 21 = .ok (.ior, 1) := by decide +kernel
theorem zd_Machine_jumpDistance_22 : decode kb_Machine_jumpDistance 22 = .ok (.iload_n 0, 1) := by decide +kernel
theorem zd_Machine_jumpDistance_23 : decode kb_Machine_jumpDistance 23 = .ok (.bipush (21), 2) := by decide +kernel
theorem zd_Machine_jumpDistance_25 : decode kb_Machine_jumpDistance 25 = .ok (.iushr, 1) := by decide +kernel
theorem zd_Machine_jumpDistance_26 : decode kb_Machine_jumpDistance 26 = .ok (.sipush (1023), 3) := by decide +kernel
theorem zd_Machine_jumpDistance_29 : decode kb_Machine_jumpDistance 29 = .ok (.iand, 1) := by decide +kernel
theorem zd_Machine_jumpDistance_30 : decode kb_Machine_jumpDistance 30 = .ok (.iconst 1, 1) := by decide +kernel
theorem zd_Machine_jumpDistance_31 : decode kb_Machine_jumpDistance 31 = .ok (.ishl, 1) := by decide +kernel
theorem zd_Machine_jumpDistance_32 : decode kb_Machine_jumpDistance 32 = .ok (.ior, 1) := by decide +kernel
theorem zd_Machine_jumpDistance_33 : decode kb_Machine_jumpDistance 33 = .ok (.ireturn, 1) := by decide +kernel
def zf_Machine_jumpDistance (u : zz_S) (x0 : Int32) : Option (Int32 × zz_S) := some ((((((x0 >>> ((31 : Int32) &&& 31)) <<< ((20 : Int32) &&& 31)) ||| (x0 &&& (1044480 : Int32))) ||| (((xx_ush x0 (20 : Int32)) &&& (1 : Int32)) <<< ((11 : Int32) &&& 31))) ||| (((xx_ush x0 (21 : Int32)) &&& (1023 : Int32)) <<< ((1 : Int32) &&& 31))), u)
set_option maxHeartbeats 4000000 in
set_option maxRecDepth 100000 in
theorem zc_Machine_jumpDistance (l : Launch) (g : xx_G) (u : zz_S) (x0 : Int32) (r : Int32) (u9 : zz_S) (hF : zf_Machine_jumpDistance u x0 = some (r, u9)) : xx_M l g.1 (zz_T g) (zz_W g) ky_Machine_jumpDistance kb_Machine_jumpDistance 1 (some .int) (xx_rm 0 0) [.int x0] u (some (.int r)) u9 := by
  refine xx_body (by decide) (Nat.le_of_ble_eq_true rfl) ?_
  intro p e s m args below meth c A ls C hin hK hl hA hP hD hS
  have hx := C.1
  have hb := C.2.1
  have hown := C.2.2.2.1
  have hts := C.2.2.2.2.1
  have hl : lv_has ls 1 [(0, .int x0)] := hl
  unfold zf_Machine_jumpDistance at hF
  refine lv_iload_n hx hb zd_Machine_jumpDistance_0 rfl (lv_at hl 0 rfl) ?_
  refine lv_bipush (v := (31 : Int32)) hx hb zd_Machine_jumpDistance_1 (by decide) ?_
  refine lv_ishr hx hb zd_Machine_jumpDistance_3 ?_
  refine lv_bipush (v := (20 : Int32)) hx hb zd_Machine_jumpDistance_4 (by decide) ?_
  refine lv_ishl hx hb zd_Machine_jumpDistance_6 ?_
  refine lv_iload_n hx hb zd_Machine_jumpDistance_7 rfl (lv_at hl 0 rfl) ?_
  refine lv_ldc (v := (1044480 : Int32)) hx hb hown (hts _ kw_758) zd_Machine_jumpDistance_8 ?_
  refine lv_iand hx hb zd_Machine_jumpDistance_10 ?_
  refine lv_ior hx hb zd_Machine_jumpDistance_11 ?_
  refine lv_iload_n hx hb zd_Machine_jumpDistance_12 rfl (lv_at hl 0 rfl) ?_
  refine lv_bipush (v := (20 : Int32)) hx hb zd_Machine_jumpDistance_13 (by decide) ?_
  refine lv_iushr hx hb zd_Machine_jumpDistance_15 (xx_ush_eq x0 (20 : Int32)) ?_
  refine lv_iconst (v := (1 : Int32)) hx hb zd_Machine_jumpDistance_16 (by decide) ?_
  refine lv_iand hx hb zd_Machine_jumpDistance_17 ?_
  refine lv_bipush (v := (11 : Int32)) hx hb zd_Machine_jumpDistance_18 (by decide) ?_
  refine lv_ishl hx hb zd_Machine_jumpDistance_20 ?_
  refine lv_ior hx hb zd_Machine_jumpDistance_21 ?_
  refine lv_iload_n hx hb zd_Machine_jumpDistance_22 rfl (lv_at hl 0 rfl) ?_
  refine lv_bipush (v := (21 : Int32)) hx hb zd_Machine_jumpDistance_23 (by decide) ?_
  refine lv_iushr hx hb zd_Machine_jumpDistance_25 (xx_ush_eq x0 (21 : Int32)) ?_
  refine lv_sipush (v := (1023 : Int32)) hx hb zd_Machine_jumpDistance_26 (by decide) ?_
  refine lv_iand hx hb zd_Machine_jumpDistance_29 ?_
  refine lv_iconst (v := (1 : Int32)) hx hb zd_Machine_jumpDistance_30 (by decide) ?_
  refine lv_ishl hx hb zd_Machine_jumpDistance_31 ?_
  refine lv_ior hx hb zd_Machine_jumpDistance_32 ?_
  exact xx_iret C hF hK hP hD hS zd_Machine_jumpDistance_33
theorem zd_Machine_branchDistance_0 : decode kb_Machine_branchDistance 0 = .ok (.iload_n 0, 1) := by decide +kernel
theorem zd_Machine_branchDistance_1 : decode kb_Machine_branchDistance 1 = .ok (.bipush (31), 2) := by decide +kernel
theorem zd_Machine_branchDistance_3 : decode kb_Machine_branchDistance 3 = .ok (.ishr, 1) := by decide +kernel
theorem zd_Machine_branchDistance_4 : decode kb_Machine_branchDistance 4 = .ok (.bipush (12), 2) := by decide +kernel
theorem zd_Machine_branchDistance_6 : decode kb_Machine_branchDistance 6 = .ok (.ishl, 1) := by decide +kernel
theorem zd_Machine_branchDistance_7 : decode kb_Machine_branchDistance 7 = .ok (.iload_n 0, 1) := by decide +kernel
theorem zd_Machine_branchDistance_8 : decode kb_Machine_branchDistance 8 = .ok (.bipush (7), 2) := by decide +kernel
theorem zd_Machine_branchDistance_10 : decode kb_Machine_branchDistance 10 = .ok (.iushr, 1) := by decide +kernel
theorem zd_Machine_branchDistance_11 : decode kb_Machine_branchDistance 11 = .ok (.iconst 1, 1) := by decide +kernel
theorem zd_Machine_branchDistance_12 : decode kb_Machine_branchDistance 12 = .ok (.iand, 1) := by decide +kernel
theorem zd_Machine_branchDistance_13 : decode kb_Machine_branchDistance 13 = .ok (.bipush (11), 2) := by decide +kernel
theorem zd_Machine_branchDistance_15 : decode kb_Machine_branchDistance 15 = .ok (.ishl, 1) := by decide +kernel
theorem zd_Machine_branchDistance_16 : decode kb_Machine_branchDistance 16 = .ok (.ior, 1) := by decide +kernel
theorem zd_Machine_branchDistance_17 : decode kb_Machine_branchDistance 17 = .ok (.iload_n 0, 1) := by decide +kernel
theorem zd_Machine_branchDistance_18 : decode kb_Machine_branchDistance 18 = .ok (.bipush (25), 2) := by decide +kernel
theorem zd_Machine_branchDistance_20 : decode kb_Machine_branchDistance 20 = .ok (.iushr, 1) := by decide +kernel
theorem zd_Machine_branchDistance_21 : decode kb_Machine_branchDistance 21 = .ok (.bipush (63), 2) := by decide +kernel
theorem zd_Machine_branchDistance_23 : decode kb_Machine_branchDistance 23 = .ok (.iand, 1) := by decide +kernel
theorem zd_Machine_branchDistance_24 : decode kb_Machine_branchDistance 24 = .ok (.iconst 5, 1) := by decide +kernel
theorem zd_Machine_branchDistance_25 : decode kb_Machine_branchDistance 25 = .ok (.ishl, 1) := by decide +kernel
theorem zd_Machine_branchDistance_26 : decode kb_Machine_branchDistance 26 = .ok (.ior, 1) := by decide +kernel
theorem zd_Machine_branchDistance_27 : decode kb_Machine_branchDistance 27 = .ok (.iload_n 0, 1) := by decide +kernel
theorem zd_Machine_branchDistance_28 : decode kb_Machine_branchDistance 28 = .ok (.bipush (8), 2) := by decide +kernel
theorem zd_Machine_branchDistance_30 : decode kb_Machine_branchDistance 30 = .ok (.iushr, 1) := by decide +kernel
theorem zd_Machine_branchDistance_31 : decode kb_Machine_branchDistance 31 = .ok (.bipush (15), 2) := by decide +kernel
theorem zd_Machine_branchDistance_33 : decode kb_Machine_branchDistance 33 = .ok (.iand, 1) := by decide +kernel
theorem zd_Machine_branchDistance_34 : decode kb_Machine_branchDistance 34 = .ok (.iconst 1, 1) := by decide +kernel
theorem zd_Machine_branchDistance_35 : decode kb_Machine_branchDistance 35 = .ok (.ishl, 1) := by decide +kernel
theorem zd_Machine_branchDistance_36 : decode kb_Machine_branchDistance 36 = .ok (.ior, 1) := by decide +kernel
theorem zd_Machine_branchDistance_37 : decode kb_Machine_branchDistance 37 = .ok (.ireturn, 1) := by decide +kernel
def zf_Machine_branchDistance (u : zz_S) (x0 : Int32) : Option (Int32 × zz_S) := some ((((((x0 >>> ((31 : Int32) &&& 31)) <<< ((12 : Int32) &&& 31)) ||| (((xx_ush x0 (7 : Int32)) &&& (1 : Int32)) <<< ((11 : Int32) &&& 31))) ||| (((xx_ush x0 (25 : Int32)) &&& (63 : Int32)) <<< ((5 : Int32) &&& 31))) ||| (((xx_ush x0 (8 : Int32)) &&& (15 : Int32)) <<< ((1 : Int32) &&& 31))), u)
set_option maxHeartbeats 4000000 in
set_option maxRecDepth 100000 in
theorem zc_Machine_branchDistance (l : Launch) (g : xx_G) (u : zz_S) (x0 : Int32) (r : Int32) (u9 : zz_S) (hF : zf_Machine_branchDistance u x0 = some (r, u9)) : xx_M l g.1 (zz_T g) (zz_W g) ky_Machine_branchDistance kb_Machine_branchDistance 1 (some .int) (xx_rm 0 0) [.int x0] u (some (.int r)) u9 := by
  refine xx_body (by decide) (Nat.le_of_ble_eq_true rfl) ?_
  intro p e s m args below meth c A ls C hin hK hl hA hP hD hS
  have hx := C.1
  have hb := C.2.1
  have hown := C.2.2.2.1
  have hts := C.2.2.2.2.1
  have hl : lv_has ls 1 [(0, .int x0)] := hl
  unfold zf_Machine_branchDistance at hF
  refine lv_iload_n hx hb zd_Machine_branchDistance_0 rfl (lv_at hl 0 rfl) ?_
  refine lv_bipush (v := (31 : Int32)) hx hb zd_Machine_branchDistance_1 (by decide) ?_
  refine lv_ishr hx hb zd_Machine_branchDistance_3 ?_
  refine lv_bipush (v := (12 : Int32)) hx hb zd_Machine_branchDistance_4 (by decide) ?_
  refine lv_ishl hx hb zd_Machine_branchDistance_6 ?_
  refine lv_iload_n hx hb zd_Machine_branchDistance_7 rfl (lv_at hl 0 rfl) ?_
  refine lv_bipush (v := (7 : Int32)) hx hb zd_Machine_branchDistance_8 (by decide) ?_
  refine lv_iushr hx hb zd_Machine_branchDistance_10 (xx_ush_eq x0 (7 : Int32)) ?_
  refine lv_iconst (v := (1 : Int32)) hx hb zd_Machine_branchDistance_11 (by decide) ?_
  refine lv_iand hx hb zd_Machine_branchDistance_12 ?_
  refine lv_bipush (v := (11 : Int32)) hx hb zd_Machine_branchDistance_13 (by decide) ?_
  refine lv_ishl hx hb zd_Machine_branchDistance_15 ?_
  refine lv_ior hx hb zd_Machine_branchDistance_16 ?_
  refine lv_iload_n hx hb zd_Machine_branchDistance_17 rfl (lv_at hl 0 rfl) ?_
  refine lv_bipush (v := (25 : Int32)) hx hb zd_Machine_branchDistance_18 (by decide) ?_
  refine lv_iushr hx hb zd_Machine_branchDistance_20 (xx_ush_eq x0 (25 : Int32)) ?_
  refine lv_bipush (v := (63 : Int32)) hx hb zd_Machine_branchDistance_21 (by decide) ?_
  refine lv_iand hx hb zd_Machine_branchDistance_23 ?_
  refine lv_iconst (v := (5 : Int32)) hx hb zd_Machine_branchDistance_24 (by decide) ?_
  refine lv_ishl hx hb zd_Machine_branchDistance_25 ?_
  refine lv_ior hx hb zd_Machine_branchDistance_26 ?_
  refine lv_iload_n hx hb zd_Machine_branchDistance_27 rfl (lv_at hl 0 rfl) ?_
  refine lv_bipush (v := (8 : Int32)) hx hb zd_Machine_branchDistance_28 (by decide) ?_
  refine lv_iushr hx hb zd_Machine_branchDistance_30 (xx_ush_eq x0 (8 : Int32)) ?_
  refine lv_bipush (v := (15 : Int32)) hx hb zd_Machine_branchDistance_31 (by decide) ?_
  refine lv_iand hx hb zd_Machine_branchDistance_33 ?_
  refine lv_iconst (v := (1 : Int32)) hx hb zd_Machine_branchDistance_34 (by decide) ?_
  refine lv_ishl hx hb zd_Machine_branchDistance_35 ?_
  refine lv_ior hx hb zd_Machine_branchDistance_36 ?_
  exact xx_iret C hF hK hP hD hS zd_Machine_branchDistance_37
theorem kw_784 : Cond.constant "ModuleLoader$Machine" 93 (-2147483648 : Int32) ∈ xx_tb := xx_in (List.mem_append_right _ (List.mem_of_getElem? (i := 784) (by decide +kernel))) (by decide +kernel)
theorem zd_Machine_isBelow_0 : decode kb_Machine_isBelow 0 = .ok (.iload_n 0, 1) := by decide +kernel
theorem zd_Machine_isBelow_1 : decode kb_Machine_isBelow 1 = .ok (.ldc 93, 2) := by decide +kernel
theorem zd_Machine_isBelow_3 : decode kb_Machine_isBelow 3 = .ok (.ixor, 1) := by decide +kernel
theorem zd_Machine_isBelow_4 : decode kb_Machine_isBelow 4 = .ok (.iload_n 1, 1) := by decide +kernel
theorem zd_Machine_isBelow_5 : decode kb_Machine_isBelow 5 = .ok (.ldc 93, 2) := by decide +kernel
theorem zd_Machine_isBelow_7 : decode kb_Machine_isBelow 7 = .ok (.ixor, 1) := by decide +kernel
theorem zd_Machine_isBelow_8 : decode kb_Machine_isBelow 8 = .ok (.if_icmp .ge (7), 3) := by decide +kernel
theorem zd_Machine_isBelow_11 : decode kb_Machine_isBelow 11 = .ok (.iconst 1, 1) := by decide +kernel
theorem zd_Machine_isBelow_12 : decode kb_Machine_isBelow 12 = .ok (.goto (4), 3) := by decide +kernel
theorem zd_Machine_isBelow_15 : decode kb_Machine_isBelow 15 = .ok (.iconst 0, 1) := by decide +kernel
theorem zd_Machine_isBelow_16 : decode kb_Machine_isBelow 16 = .ok (.ireturn, 1) := by decide +kernel
def zf_Machine_isBelow_b16 (u : zz_S) (y0 : Int32) : Option (Int32 × zz_S) := some (vp_nar .boolean y0, u)
def zf_Machine_isBelow (u : zz_S) (x0 : Int32) (x1 : Int32) : Option (Int32 × zz_S) := if (x1 ^^^ (-2147483648 : Int32)) ≤ (x0 ^^^ (-2147483648 : Int32)) then (zf_Machine_isBelow_b16 u (0 : Int32)) else (zf_Machine_isBelow_b16 u (1 : Int32))
set_option maxHeartbeats 4000000 in
set_option maxRecDepth 100000 in
theorem zw_Machine_isBelow_b16 {p : Program} {l : Launch} {e : Env} {s : State} {m : MethodId} {args : Array Value} {below : List Frame} {meth : Method} {c : Code} {A : Nat → Prop} {g : xx_G} {r : Int32} {u9 : zz_S} (C : xx_C p s m args meth c kb_Machine_isBelow 2 kr_Machine (some .boolean)) (hA : ∀ q, s.heap.size ≤ q → A q) (hK : va_K g.1 xx_cls (zz_T g) s) : ∀ (u : zz_S) (y0 : Int32) (H : Heap) (locs : List Loc) (ls : Array Slot), zf_Machine_isBelow_b16 u y0 = some (r, u9) → lv_has ls 2 [] → va_P g.1 xx_cls (zz_W g u) H → va_D A (zz_W g u) → va_S A s.heap H locs → W p l e (xx_rm 0 0) s m args below meth c H locs 0 0 (MQ below (xx_Q g.1 (zz_T g) (zz_W g) (some (.int r)) u9 A) args s 0 0 A) (F0 m 16 ls [.int y0]) := by
  have hx := C.1
  have hb := C.2.1
  have hown := C.2.2.2.1
  have hts := C.2.2.2.2.1
  intro u y0 H locs ls hF hl hP hD hS
  unfold zf_Machine_isBelow_b16 at hF
  exact xx_zret C hF hK hP hD hS zd_Machine_isBelow_16
set_option maxHeartbeats 4000000 in
set_option maxRecDepth 100000 in
theorem zc_Machine_isBelow (l : Launch) (g : xx_G) (u : zz_S) (x0 : Int32) (x1 : Int32) (r : Int32) (u9 : zz_S) (hF : zf_Machine_isBelow u x0 x1 = some (r, u9)) : xx_M l g.1 (zz_T g) (zz_W g) ky_Machine_isBelow kb_Machine_isBelow 2 (some .boolean) (xx_rm 0 0) [.int x0, .int x1] u (some (.int r)) u9 := by
  refine xx_body (by decide) (Nat.le_of_ble_eq_true rfl) ?_
  intro p e s m args below meth c A ls C hin hK hl hA hP hD hS
  have hx := C.1
  have hb := C.2.1
  have hown := C.2.2.2.1
  have hts := C.2.2.2.2.1
  have hl : lv_has ls 2 [(0, .int x0), (1, .int x1)] := hl
  unfold zf_Machine_isBelow at hF
  refine lv_iload_n hx hb zd_Machine_isBelow_0 rfl (lv_at hl 0 rfl) ?_
  refine lv_ldc (v := (-2147483648 : Int32)) hx hb hown (hts _ kw_784) zd_Machine_isBelow_1 ?_
  refine lv_ixor hx hb zd_Machine_isBelow_3 ?_
  refine lv_iload_n hx hb zd_Machine_isBelow_4 rfl (lv_at hl 1 rfl) ?_
  refine lv_ldc (v := (-2147483648 : Int32)) hx hb hown (hts _ kw_784) zd_Machine_isBelow_5 ?_
  refine lv_ixor hx hb zd_Machine_isBelow_7 ?_
  refine lv_icmp_ge (tgt := 15) hx hb zd_Machine_isBelow_8 (by decide) (fun hc => ?_) (fun hc => ?_)
  · have hF := xx_ip hc hF
    refine lv_iconst (v := (0 : Int32)) hx hb zd_Machine_isBelow_15 (by decide) ?_
    exact zw_Machine_isBelow_b16 C hA hK  u (0 : Int32) _ _ _ hF (lv_sub hl [] rfl) hP hD hS
  · have hF := xx_in' hc hF
    refine lv_iconst (v := (1 : Int32)) hx hb zd_Machine_isBelow_11 (by decide) ?_
    refine lv_goto (tgt := 16) hx hb zd_Machine_isBelow_12 (by decide) ?_
    exact zw_Machine_isBelow_b16 C hA hK  u (1 : Int32) _ _ _ hF (lv_sub hl [] rfl) hP hD hS
theorem zd_Memory_holds_0 : decode kb_Memory_holds 0 = .ok (.iload_n 1, 1) := by decide +kernel
theorem zd_Memory_holds_1 : decode kb_Memory_holds 1 = .ok (.ifCond .lt (14), 3) := by decide +kernel
theorem zd_Memory_holds_4 : decode kb_Memory_holds 4 = .ok (.iload_n 1, 1) := by decide +kernel
theorem zd_Memory_holds_5 : decode kb_Memory_holds 5 = .ok (.sipush (4096), 3) := by decide +kernel
theorem zd_Memory_holds_8 : decode kb_Memory_holds 8 = .ok (.if_icmp .ge (7), 3) := by decide +kernel
theorem zd_Memory_holds_11 : decode kb_Memory_holds 11 = .ok (.iconst 1, 1) := by decide +kernel
theorem zd_Memory_holds_12 : decode kb_Memory_holds 12 = .ok (.goto (4), 3) := by decide +kernel
theorem zd_Memory_holds_15 : decode kb_Memory_holds 15 = .ok (.iconst 0, 1) := by decide +kernel
theorem zd_Memory_holds_16 : decode kb_Memory_holds 16 = .ok (.ireturn, 1) := by decide +kernel
def zf_Memory_holds_b16 (u : zz_S) (y0 : Int32) : Option (Int32 × zz_S) := some (vp_nar .boolean y0, u)
def zf_Memory_holds_b15 (u : zz_S) : Option (Int32 × zz_S) := zf_Memory_holds_b16 u (0 : Int32)
def zf_Memory_holds (u : zz_S) (x1 : Int32) : Option (Int32 × zz_S) := if x1 < 0 then (zf_Memory_holds_b15 u) else (if (4096 : Int32) ≤ x1 then (zf_Memory_holds_b15 u) else (zf_Memory_holds_b16 u (1 : Int32)))
set_option maxHeartbeats 4000000 in
set_option maxRecDepth 100000 in
theorem zw_Memory_holds_b16 {p : Program} {l : Launch} {e : Env} {s : State} {m : MethodId} {args : Array Value} {below : List Frame} {meth : Method} {c : Code} {A : Nat → Prop} {g : xx_G} {r : Int32} {u9 : zz_S} (C : xx_C p s m args meth c kb_Memory_holds 2 kr_Memory (some .boolean)) (hA : ∀ q, s.heap.size ≤ q → A q) (hK : va_K g.1 xx_cls (zz_T g) s) : ∀ (u : zz_S) (y0 : Int32) (H : Heap) (locs : List Loc) (ls : Array Slot), zf_Memory_holds_b16 u y0 = some (r, u9) → lv_has ls 2 [] → va_P g.1 xx_cls (zz_W g u) H → va_D A (zz_W g u) → va_S A s.heap H locs → W p l e (xx_rm 0 0) s m args below meth c H locs 0 0 (MQ below (xx_Q g.1 (zz_T g) (zz_W g) (some (.int r)) u9 A) args s 0 0 A) (F0 m 16 ls [.int y0]) := by
  have hx := C.1
  have hb := C.2.1
  have hown := C.2.2.2.1
  have hts := C.2.2.2.2.1
  intro u y0 H locs ls hF hl hP hD hS
  unfold zf_Memory_holds_b16 at hF
  exact xx_zret C hF hK hP hD hS zd_Memory_holds_16
set_option maxHeartbeats 4000000 in
set_option maxRecDepth 100000 in
theorem zw_Memory_holds_b15 {p : Program} {l : Launch} {e : Env} {s : State} {m : MethodId} {args : Array Value} {below : List Frame} {meth : Method} {c : Code} {A : Nat → Prop} {g : xx_G} {r : Int32} {u9 : zz_S} (C : xx_C p s m args meth c kb_Memory_holds 2 kr_Memory (some .boolean)) (hA : ∀ q, s.heap.size ≤ q → A q) (hK : va_K g.1 xx_cls (zz_T g) s) : ∀ (u : zz_S) (H : Heap) (locs : List Loc) (ls : Array Slot), zf_Memory_holds_b15 u = some (r, u9) → lv_has ls 2 [] → va_P g.1 xx_cls (zz_W g u) H → va_D A (zz_W g u) → va_S A s.heap H locs → W p l e (xx_rm 0 0) s m args below meth c H locs 0 0 (MQ below (xx_Q g.1 (zz_T g) (zz_W g) (some (.int r)) u9 A) args s 0 0 A) (F0 m 15 ls []) := by
  have hx := C.1
  have hb := C.2.1
  have hown := C.2.2.2.1
  have hts := C.2.2.2.2.1
  intro u H locs ls hF hl hP hD hS
  unfold zf_Memory_holds_b15 at hF
  refine lv_iconst (v := (0 : Int32)) hx hb zd_Memory_holds_15 (by decide) ?_
  exact zw_Memory_holds_b16 C hA hK  u (0 : Int32) _ _ _ hF (lv_sub hl [] rfl) hP hD hS
set_option maxHeartbeats 4000000 in
set_option maxRecDepth 100000 in
theorem zc_Memory_holds (l : Launch) (g : xx_G) (u : zz_S) (x1 : Int32) (r : Int32) (u9 : zz_S) (hF : zf_Memory_holds u x1 = some (r, u9)) : xx_M l g.1 (zz_T g) (zz_W g) ky_Memory_holds kb_Memory_holds 2 (some .boolean) (xx_rm 0 0) [.ref (g.2.1 1), .int x1] u (some (.int r)) u9 := by
  refine xx_body (by decide) (Nat.le_of_ble_eq_true rfl) ?_
  intro p e s m args below meth c A ls C hin hK hl hA hP hD hS
  have hx := C.1
  have hb := C.2.1
  have hown := C.2.2.2.1
  have hts := C.2.2.2.2.1
  have hl : lv_has ls 2 [(0, .ref (g.2.1 1)), (1, .int x1)] := hl
  unfold zf_Memory_holds at hF
  refine lv_iload_n hx hb zd_Memory_holds_0 rfl (lv_at hl 1 rfl) ?_
  refine lv_if_lt (tgt := 15) hx hb zd_Memory_holds_1 (by decide) (fun hc => ?_) (fun hc => ?_)
  · have hF := xx_ip hc hF
    exact zw_Memory_holds_b15 C hA hK  u _ _ _ hF (lv_sub hl [] rfl) hP hD hS
  · have hF := xx_in' hc hF
    refine lv_iload_n hx hb zd_Memory_holds_4 rfl (lv_at hl 1 rfl) ?_
    refine lv_sipush (v := (4096 : Int32)) hx hb zd_Memory_holds_5 (by decide) ?_
    refine lv_icmp_ge (tgt := 15) hx hb zd_Memory_holds_8 (by decide) (fun hc => ?_) (fun hc => ?_)
    · have hF := xx_ip hc hF
      exact zw_Memory_holds_b15 C hA hK  u _ _ _ hF (lv_sub hl [] rfl) hP hD hS
    · have hF := xx_in' hc hF
      refine lv_iconst (v := (1 : Int32)) hx hb zd_Memory_holds_11 (by decide) ?_
      refine lv_goto (tgt := 16) hx hb zd_Memory_holds_12 (by decide) ?_
      exact zw_Memory_holds_b16 C hA hK  u (1 : Int32) _ _ _ hF (lv_sub hl [] rfl) hP hD hS
