set_option maxRecDepth 100000 in
theorem kw_548 : Cond.code ky_ModuleFile_exportOffset kb_ModuleFile_exportOffset 2 (some .int) ∈ xx_tb := xx_in (List.mem_append_right _ (List.mem_of_getElem? (i := 548) (by rfl))) (by decide +kernel)
theorem kw_545 : Cond.methodLink "ModuleLoader$ModuleFile" 93 ky_ModuleFile_exportOffset ∈ xx_tb := xx_in (List.mem_append_right _ (List.mem_of_getElem? (i := 545) (by decide +kernel))) (by decide +kernel)
theorem kw_546 : Cond.instanceMethod ky_ModuleFile_exportOffset ∈ xx_tb := xx_in (List.mem_append_right _ (List.mem_of_getElem? (i := 546) (by decide +kernel))) (by decide +kernel)
theorem kw_547 : Cond.selects "ModuleLoader$ModuleFile" ky_ModuleFile_exportOffset ky_ModuleFile_exportOffset ∈ xx_tb := xx_in (List.mem_append_right _ (List.mem_of_getElem? (i := 547) (by decide +kernel))) (by decide +kernel)
set_option maxRecDepth 100000 in
theorem kw_552 : Cond.code ky_ModuleFile_isExportedBefore kb_ModuleFile_isExportedBefore 3 (some .boolean) ∈ xx_tb := xx_in (List.mem_append_right _ (List.mem_of_getElem? (i := 552) (by rfl))) (by decide +kernel)
theorem kw_549 : Cond.methodLink "ModuleLoader$ModuleFile" 96 ky_ModuleFile_isExportedBefore ∈ xx_tb := xx_in (List.mem_append_right _ (List.mem_of_getElem? (i := 549) (by decide +kernel))) (by decide +kernel)
theorem kw_551 : Cond.instanceMethod ky_ModuleFile_isExportedBefore ∈ xx_tb := xx_in (List.mem_append_right _ (List.mem_of_getElem? (i := 551) (by decide +kernel))) (by decide +kernel)
theorem ks_ModuleFile_isExportedBefore : Cond.selects "ModuleLoader$ModuleFile" ky_ModuleFile_isExportedBefore ky_ModuleFile_isExportedBefore ∈ xx_tb := xx_in (List.mem_append_left _ (by decide +kernel)) (by decide +kernel)
theorem zd_ModuleFile_exportsHold_0 : decode kb_ModuleFile_exportsHold 0 = .ok (.iconst 0, 1) := by decide +kernel
theorem zd_ModuleFile_exportsHold_1 : decode kb_ModuleFile_exportsHold 1 = .ok (.istore_n 1, 1) := by decide +kernel
theorem zd_ModuleFile_exportsHold_2 : decode kb_ModuleFile_exportsHold 2 = .ok (.iload_n 1, 1) := by decide +kernel
theorem zd_ModuleFile_exportsHold_3 : decode kb_ModuleFile_exportsHold 3 = .ok (.aload_n 0, 1) := by decide +kernel
theorem zd_ModuleFile_exportsHold_4 : decode kb_ModuleFile_exportsHold 4 = .ok (.getfield 46, 3) := by decide +kernel
theorem zd_ModuleFile_exportsHold_7 : decode kb_ModuleFile_exportsHold 7 = .ok (.if_icmp .ge (42), 3) := by decide +kernel
theorem zd_ModuleFile_exportsHold_10 : decode kb_ModuleFile_exportsHold 10 = .ok (.aload_n 0, 1) := by decide +kernel
theorem zd_ModuleFile_exportsHold_11 : decode kb_ModuleFile_exportsHold 11 = .ok (.iload_n 1, 1) := by decide +kernel
theorem zd_ModuleFile_exportsHold_12 : decode kb_ModuleFile_exportsHold 12 = .ok (.invokevirtual 90, 3) := by decide +kernel
theorem zd_ModuleFile_exportsHold_15 : decode kb_ModuleFile_exportsHold 15 = .ok (.invokestatic 87, 3) := by decide +kernel
theorem zd_ModuleFile_exportsHold_18 : decode kb_ModuleFile_exportsHold 18 = .ok (.ifCond .eq (23), 3) := by decide +kernel
theorem zd_ModuleFile_exportsHold_21 : decode kb_ModuleFile_exportsHold 21 = .ok (.aload_n 0, 1) := by decide +kernel
theorem zd_ModuleFile_exportsHold_22 : decode kb_ModuleFile_exportsHold 22 = .ok (.aload_n 0, 1) := by decide +kernel
theorem zd_ModuleFile_exportsHold_23 : decode kb_ModuleFile_exportsHold 23 = .ok (.iload_n 1, 1) := by decide +kernel
theorem zd_ModuleFile_exportsHold_24 : decode kb_ModuleFile_exportsHold 24 = .ok (.invokevirtual 93, 3) := by decide +kernel
theorem zd_ModuleFile_exportsHold_27 : decode kb_ModuleFile_exportsHold 27 = .ok (.invokevirtual 77, 3) := by decide +kernel
theorem zd_ModuleFile_exportsHold_30 : decode kb_ModuleFile_exportsHold 30 = .ok (.ifCond .eq (11), 3) := by decide +kernel
theorem zd_ModuleFile_exportsHold_33 : decode kb_ModuleFile_exportsHold 33 = .ok (.aload_n 0, 1) := by decide +kernel
theorem zd_ModuleFile_exportsHold_34 : decode kb_ModuleFile_exportsHold 34 = .ok (.iload_n 1, 1) := by decide +kernel
theorem zd_ModuleFile_exportsHold_35 : decode kb_ModuleFile_exportsHold 35 = .ok (.invokevirtual 96, 3) := by decide +kernel
theorem zd_ModuleFile_exportsHold_38 : decode kb_ModuleFile_exportsHold 38 = .ok (.ifCond .eq (5), 3) := by decide +kernel
theorem zd_ModuleFile_exportsHold_41 : decode kb_ModuleFile_exportsHold 41 = .ok (.iconst 0, 1) := by decide +kernel
theorem zd_ModuleFile_exportsHold_42 : decode kb_ModuleFile_exportsHold 42 = .ok (.ireturn, 1) := by decide +kernel
theorem zd_ModuleFile_exportsHold_43 : decode kb_ModuleFile_exportsHold 43 = .ok (.iinc 1 (1), 3) := by decide +kernel
theorem zd_ModuleFile_exportsHold_46 : decode kb_ModuleFile_exportsHold 46 = .ok (.goto (-44), 3) := by decide +kernel
theorem zd_ModuleFile_exportsHold_49 : decode kb_ModuleFile_exportsHold 49 = .ok (.iconst 1, 1) := by decide +kernel
theorem zd_ModuleFile_exportsHold_50 : decode kb_ModuleFile_exportsHold 50 = .ok (.ireturn, 1) := by decide +kernel
def zf_ModuleFile_exportsHold_b41 (u : zz_S) : Option (Int32 × zz_S) := some (vp_nar .boolean (0 : Int32), u)
def zf_ModuleFile_exportsHold_b2 : Nat → zz_S → Int32 → Option (Int32 × zz_S)
  | 0, _, _ => none
  | n + 1, u, x1 => if (u.1 7) ≤ x1 then (some (vp_nar .boolean (1 : Int32), u)) else (xx_b2 (zf_ModuleFile_exportName u x1) fun v2 u1 => xx_b2 (zf_Loader_isName u1 v2) fun v4 u3 => if v4 = 0 then (zf_ModuleFile_exportsHold_b41 u3) else (xx_b2 (zf_ModuleFile_exportOffset u3 x1) fun v6 u5 => xx_b2 (zf_ModuleFile_isOffset u5 v6) fun v8 u7 => if v8 = 0 then (zf_ModuleFile_exportsHold_b41 u7) else (xx_b2 (zf_ModuleFile_isExportedBefore u7 x1) fun v10 u9 => if v10 = 0 then (xx_nm (x1 + (1 : Int32)) fun v11 => (zf_ModuleFile_exportsHold_b2 n) u9 v11) else (zf_ModuleFile_exportsHold_b41 u9))))
def zf_ModuleFile_exportsHold (u : zz_S) : Option (Int32 × zz_S) := xx_nm (0 : Int32) fun v1 => zf_ModuleFile_exportsHold_b2 xx_fu u v1
set_option maxHeartbeats 4000000 in
set_option maxRecDepth 100000 in
theorem zw_ModuleFile_exportsHold_b41 {p : Program} {l : Launch} {e : Env} {s : State} {m : MethodId} {args : Array Value} {below : List Frame} {meth : Method} {c : Code} {A : Nat → Prop} {g : xx_G} {r : Int32} {u9 : zz_S} (C : xx_C p s m args meth c kb_ModuleFile_exportsHold 2 kr_ModuleFile (some .boolean)) (hA : ∀ q, s.heap.size ≤ q → A q) (hK : va_K g.1 xx_cls (zz_T g) s) : ∀ (u : zz_S) (H : Heap) (locs : List Loc) (ls : Array Slot), zf_ModuleFile_exportsHold_b41 u = some (r, u9) → lv_has ls 2 [] → va_P g.1 xx_cls (zz_W g u) H → va_D A (zz_W g u) → va_S A s.heap H locs → W p l e (xx_rm 3 64) s m args below meth c H locs 0 0 (MQ below (xx_Q g.1 (zz_T g) (zz_W g) (some (.int r)) u9 A) args s 0 0 A) (F0 m 41 ls []) := by
  have hx := C.1
  have hb := C.2.1
  have hown := C.2.2.2.1
  have hts := C.2.2.2.2.1
  intro u H locs ls hF hl hP hD hS
  unfold zf_ModuleFile_exportsHold_b41 at hF
  refine lv_iconst (v := (0 : Int32)) hx hb zd_ModuleFile_exportsHold_41 (by decide) ?_
  exact xx_zret C hF hK hP hD hS zd_ModuleFile_exportsHold_42
set_option maxHeartbeats 4000000 in
set_option maxRecDepth 100000 in
theorem zw_ModuleFile_exportsHold_b2 {p : Program} {l : Launch} {e : Env} {s : State} {m : MethodId} {args : Array Value} {below : List Frame} {meth : Method} {c : Code} {A : Nat → Prop} {g : xx_G} {r : Int32} {u9 : zz_S} (C : xx_C p s m args meth c kb_ModuleFile_exportsHold 2 kr_ModuleFile (some .boolean)) (hA : ∀ q, s.heap.size ≤ q → A q) (hK : va_K g.1 xx_cls (zz_T g) s) : ∀ (n : Nat), ∀ (u : zz_S) (x1 : Int32) (H : Heap) (locs : List Loc) (ls : Array Slot), zf_ModuleFile_exportsHold_b2 n u x1 = some (r, u9) → lv_has ls 2 [(0, .ref (g.2.1 8)), (1, .int x1)] → va_P g.1 xx_cls (zz_W g u) H → va_D A (zz_W g u) → va_S A s.heap H locs → W p l e (xx_rm 3 64) s m args below meth c H locs 0 0 (MQ below (xx_Q g.1 (zz_T g) (zz_W g) (some (.int r)) u9 A) args s 0 0 A) (F0 m 2 ls []) := by
  have hx := C.1
  have hb := C.2.1
  have hown := C.2.2.2.1
  have hts := C.2.2.2.2.1
  intro n
  induction n with
  | zero =>
    intro u x1 H locs ls hF
    rw [zf_ModuleFile_exportsHold_b2] at hF
    cases hF
  | succ n ih =>
    intro u x1 H locs ls hF hl hP hD hS
    rw [zf_ModuleFile_exportsHold_b2] at hF
    refine lv_iload_n hx hb zd_ModuleFile_exportsHold_2 rfl (lv_at hl 1 rfl) ?_
    refine lv_aload_n hx hb zd_ModuleFile_exportsHold_3 rfl (lv_at hl 0 rfl) ?_
    refine xx_get C ki_ModuleFile hK hP 8 rfl rfl 2 (by decide) kw_93 rfl rfl zd_ModuleFile_exportsHold_4 ?_
    refine lv_icmp_ge (tgt := 49) hx hb zd_ModuleFile_exportsHold_7 (by decide) (fun hc => ?_) (fun hc => ?_)
    · have hF := xx_ip hc hF
      refine lv_iconst (v := (1 : Int32)) hx hb zd_ModuleFile_exportsHold_49 (by decide) ?_
      exact xx_zret C hF hK hP hD hS zd_ModuleFile_exportsHold_50
    · have hF := xx_in' hc hF
      refine lv_aload_n hx hb zd_ModuleFile_exportsHold_10 rfl (lv_at hl 0 rfl) ?_
      refine lv_iload_n hx hb zd_ModuleFile_exportsHold_11 rfl (lv_at hl 1 rfl) ?_
      obtain ⟨v2, u1, eu1, hF⟩ := xx_b2_some hF
      refine xx_callV (n := 1) (As := [.int x1]) (rest := []) C (zc_ModuleFile_exportName l g u x1 v2 u1 eu1) ⟨kw_544, kw_541, kw_542, kw_543, kw_5⟩ ⟨by decide +kernel, by decide +kernel, by decide +kernel⟩ rfl ⟨Nat.le_of_ble_eq_true rfl, Nat.le_of_ble_eq_true rfl⟩ 8 rfl rfl hl.1 rfl (Nat.le_of_ble_eq_true rfl) hA hK hP hD hS ⟨Nat.le_refl _, Nat.le_refl _⟩ rfl rfl rfl zd_ModuleFile_exportsHold_12 (fun H locs hP hD hS => ?_)
      obtain ⟨v4, u3, eu3, hF⟩ := xx_b2_some hF
      refine xx_callSN (n := 1) (As := [.int v2]) (rest := []) C (zc_Loader_isName l g u1 v2 v4 u3 eu3) ⟨kw_436, C.2.2.2.2.2.2.2.1, kw_435, kw_1⟩ ⟨by decide +kernel, by decide +kernel, by decide +kernel⟩ rfl ⟨Nat.le_of_ble_eq_true rfl, Nat.le_of_ble_eq_true rfl⟩ hl.1 rfl (Nat.le_of_ble_eq_true rfl) hA hK hP hD hS ⟨Nat.le_refl _, Nat.le_refl _⟩ rfl rfl rfl zd_ModuleFile_exportsHold_15 (fun H locs hP hD hS => ?_)
      refine lv_if_eq (tgt := 41) hx hb zd_ModuleFile_exportsHold_18 (by decide) (fun hc => ?_) (fun hc => ?_)
      · have hF := xx_ip hc hF
        exact zw_ModuleFile_exportsHold_b41 C hA hK  u3 _ _ _ hF (lv_sub hl [] rfl) hP hD hS
      · have hF := xx_in' hc hF
        refine lv_aload_n hx hb zd_ModuleFile_exportsHold_21 rfl (lv_at hl 0 rfl) ?_
        refine lv_aload_n hx hb zd_ModuleFile_exportsHold_22 rfl (lv_at hl 0 rfl) ?_
        refine lv_iload_n hx hb zd_ModuleFile_exportsHold_23 rfl (lv_at hl 1 rfl) ?_
        obtain ⟨v6, u5, eu5, hF⟩ := xx_b2_some hF
        refine xx_callV (n := 1) (As := [.int x1]) (rest := [.ref (g.2.1 8)]) C (zc_ModuleFile_exportOffset l g u3 x1 v6 u5 eu5) ⟨kw_548, kw_545, kw_546, kw_547, kw_5⟩ ⟨by decide +kernel, by decide +kernel, by decide +kernel⟩ rfl ⟨Nat.le_of_ble_eq_true rfl, Nat.le_of_ble_eq_true rfl⟩ 8 rfl rfl hl.1 rfl (Nat.le_of_ble_eq_true rfl) hA hK hP hD hS ⟨Nat.le_refl _, Nat.le_refl _⟩ rfl rfl rfl zd_ModuleFile_exportsHold_24 (fun H locs hP hD hS => ?_)
        obtain ⟨v8, u7, eu7, hF⟩ := xx_b2_some hF
        refine xx_callV (n := 1) (As := [.int v6]) (rest := []) C (zc_ModuleFile_isOffset l g u5 v6 v8 u7 eu7) ⟨kw_526, kw_523, kw_525, ks_ModuleFile_isOffset, kw_5⟩ ⟨by decide +kernel, by decide +kernel, by decide +kernel⟩ rfl ⟨Nat.le_of_ble_eq_true rfl, Nat.le_of_ble_eq_true rfl⟩ 8 rfl rfl hl.1 rfl (Nat.le_of_ble_eq_true rfl) hA hK hP hD hS ⟨Nat.le_refl _, Nat.le_refl _⟩ rfl rfl rfl zd_ModuleFile_exportsHold_27 (fun H locs hP hD hS => ?_)
        refine lv_if_eq (tgt := 41) hx hb zd_ModuleFile_exportsHold_30 (by decide) (fun hc => ?_) (fun hc => ?_)
        · have hF := xx_ip hc hF
          exact zw_ModuleFile_exportsHold_b41 C hA hK  u7 _ _ _ hF (lv_sub hl [] rfl) hP hD hS
        · have hF := xx_in' hc hF
          refine lv_aload_n hx hb zd_ModuleFile_exportsHold_33 rfl (lv_at hl 0 rfl) ?_
          refine lv_iload_n hx hb zd_ModuleFile_exportsHold_34 rfl (lv_at hl 1 rfl) ?_
          obtain ⟨v10, u9, eu9, hF⟩ := xx_b2_some hF
          refine xx_callV (n := 1) (As := [.int x1]) (rest := []) C (zc_ModuleFile_isExportedBefore l g u7 x1 v10 u9 eu9) ⟨kw_552, kw_549, kw_551, ks_ModuleFile_isExportedBefore, kw_5⟩ ⟨by decide +kernel, by decide +kernel, by decide +kernel⟩ rfl ⟨Nat.le_of_ble_eq_true rfl, Nat.le_of_ble_eq_true rfl⟩ 8 rfl rfl hl.1 rfl (Nat.le_of_ble_eq_true rfl) hA hK hP hD hS ⟨Nat.le_refl _, Nat.le_refl _⟩ rfl rfl rfl zd_ModuleFile_exportsHold_35 (fun H locs hP hD hS => ?_)
          refine lv_if_eq (tgt := 43) hx hb zd_ModuleFile_exportsHold_38 (by decide) (fun hc => ?_) (fun hc => ?_)
          · have hF := xx_ip hc hF
            obtain ⟨v11, ev11, hF⟩ := xx_nm_some hF
            refine lv_iinc (k := 1) (v := v11) hx hb zd_ModuleFile_exportsHold_43 hl rfl (by rw [ev11, xx_lit1]) (by decide) rfl (fun ls hl => ?_)
            refine lv_goto (tgt := 2) hx hb zd_ModuleFile_exportsHold_46 (by decide) ?_
            exact ih u9 v11 _ _ _ hF (lv_sub hl [1, 0] rfl) hP hD hS
          · have hF := xx_in' hc hF
            exact zw_ModuleFile_exportsHold_b41 C hA hK  u9 _ _ _ hF (lv_sub hl [] rfl) hP hD hS
set_option maxHeartbeats 4000000 in
set_option maxRecDepth 100000 in
theorem zc_ModuleFile_exportsHold (l : Launch) (g : xx_G) (u : zz_S) (r : Int32) (u9 : zz_S) (hF : zf_ModuleFile_exportsHold u = some (r, u9)) : xx_M l g.1 (zz_T g) (zz_W g) ky_ModuleFile_exportsHold kb_ModuleFile_exportsHold 2 (some .boolean) (xx_rm 3 64) [.ref (g.2.1 8)] u (some (.int r)) u9 := by
  refine xx_body (by decide) (Nat.le_of_ble_eq_true rfl) ?_
  intro p e s m args below meth c A ls C hin hK hl hA hP hD hS
  have hx := C.1
  have hb := C.2.1
  have hown := C.2.2.2.1
  have hts := C.2.2.2.2.1
  have hl : lv_has ls 2 [(0, .ref (g.2.1 8))] := hl
  unfold zf_ModuleFile_exportsHold at hF
  refine lv_iconst (v := (0 : Int32)) hx hb zd_ModuleFile_exportsHold_0 (by decide) ?_
  obtain ⟨v1, ev1, hF⟩ := xx_nm_some hF
  refine xx_topi ev1 ?_
  refine lv_istore_n hx hb zd_ModuleFile_exportsHold_1 rfl hl (by decide) rfl (fun ls hl => ?_)
  exact zw_ModuleFile_exportsHold_b2 C hA hK xx_fu u v1 _ _ _ hF (lv_sub hl [1, 0] rfl) hP hD hS
set_option maxRecDepth 100000 in
theorem kw_311 : Cond.code ky_ModuleTable_gapRows kb_ModuleTable_gapRows 3 (some .int) ∈ xx_tb := xx_in (List.mem_append_right _ (List.mem_of_getElem? (i := 311) (by rfl))) (by decide +kernel)
theorem kw_308 : Cond.methodLink "ModuleLoader$ModuleTable" 49 ky_ModuleTable_gapRows ∈ xx_tb := xx_in (List.mem_append_right _ (List.mem_of_getElem? (i := 308) (by decide +kernel))) (by decide +kernel)
theorem kw_310 : Cond.instanceMethod ky_ModuleTable_gapRows ∈ xx_tb := xx_in (List.mem_append_right _ (List.mem_of_getElem? (i := 310) (by decide +kernel))) (by decide +kernel)
theorem ks_ModuleTable_gapRows : Cond.selects "ModuleLoader$ModuleTable" ky_ModuleTable_gapRows ky_ModuleTable_gapRows ∈ xx_tb := xx_in (List.mem_append_left _ (by decide +kernel)) (by decide +kernel)
set_option maxRecDepth 100000 in
theorem kw_609 : Cond.code ky_ModuleTable_rowsFor kb_ModuleTable_rowsFor 1 (some .int) ∈ xx_tb := xx_in (List.mem_append_right _ (List.mem_of_getElem? (i := 609) (by rfl))) (by decide +kernel)
theorem kw_607 : Cond.methodLink "ModuleLoader$ModuleTable" 52 ky_ModuleTable_rowsFor ∈ xx_tb := xx_in (List.mem_append_right _ (List.mem_of_getElem? (i := 607) (by decide +kernel))) (by decide +kernel)
theorem kw_608 : Cond.static ky_ModuleTable_rowsFor ∈ xx_tb := xx_in (List.mem_append_right _ (List.mem_of_getElem? (i := 608) (by decide +kernel))) (by decide +kernel)
theorem zd_ModuleTable_firstFit_0 : decode kb_ModuleTable_firstFit 0 = .ok (.iconst (-1), 1) := by decide +kernel
theorem zd_ModuleTable_firstFit_1 : decode kb_ModuleTable_firstFit 1 = .ok (.istore_n 2, 1) := by decide +kernel
theorem zd_ModuleTable_firstFit_2 : decode kb_ModuleTable_firstFit 2 = .ok (.iload_n 2, 1) := by decide +kernel
theorem zd_ModuleTable_firstFit_3 : decode kb_ModuleTable_firstFit 3 = .ok (.aload_n 0, 1) := by decide +kernel
theorem zd_ModuleTable_firstFit_4 : decode kb_ModuleTable_firstFit 4 = .ok (.getfield 17, 3) := by decide +kernel
theorem zd_ModuleTable_firstFit_7 : decode kb_ModuleTable_firstFit 7 = .ok (.if_icmp .ge (34), 3) := by decide +kernel
theorem zd_ModuleTable_firstFit_10 : decode kb_ModuleTable_firstFit 10 = .ok (.aload_n 0, 1) := by decide +kernel
theorem zd_ModuleTable_firstFit_11 : decode kb_ModuleTable_firstFit 11 = .ok (.iload_n 2, 1) := by decide +kernel
theorem zd_ModuleTable_firstFit_12 : decode kb_ModuleTable_firstFit 12 = .ok (.invokevirtual 49, 3) := by decide +kernel
theorem zd_ModuleTable_firstFit_15 : decode kb_ModuleTable_firstFit 15 = .ok (.iload_n 1, 1) := by decide +kernel
theorem zd_ModuleTable_firstFit_16 : decode kb_ModuleTable_firstFit 16 = .ok (.invokestatic 52, 3) := by decide +kernel
theorem zd_ModuleTable_firstFit_19 : decode kb_ModuleTable_firstFit 19 = .ok (.if_icmp .lt (16), 3) := by decide +kernel
theorem zd_ModuleTable_firstFit_22 : decode kb_ModuleTable_firstFit 22 = .ok (.sipush (512), 3) := by decide +kernel
theorem zd_ModuleTable_firstFit_25 : decode kb_ModuleTable_firstFit 25 = .ok (.bipush (16), 2) := by decide +kernel
theorem zd_ModuleTable_firstFit_27 : decode kb_ModuleTable_firstFit 27 = .ok (.aload_n 0, 1) := by decide +kernel
theorem zd_ModuleTable_firstFit_28 : decode kb_ModuleTable_firstFit 28 = .ok (.iload_n 2, 1) := by decide +kernel
theorem zd_ModuleTable_firstFit_29 : decode kb_ModuleTable_firstFit 29 = .ok (.invokevirtual 45, 3) := by decide +kernel
theorem zd_ModuleTable_firstFit_32 : decode kb_ModuleTable_firstFit 32 = .ok (.imul, 1) := by decide +kernel
theorem zd_ModuleTable_firstFit_33 : decode kb_ModuleTable_firstFit 33 = .ok (.iadd, 1) := by decide +kernel
theorem zd_ModuleTable_firstFit_34 : decode kb_ModuleTable_firstFit 34 = .ok (.ireturn, 1) := by decide +kernel
theorem zd_ModuleTable_firstFit_35 : decode kb_ModuleTable_firstFit 35 = .ok (.iinc 2 (1), 3) := by decide +kernel
theorem zd_ModuleTable_firstFit_38 : decode kb_ModuleTable_firstFit 38 = .ok (.goto (-36), 3) := by decide +kernel
theorem zd_ModuleTable_firstFit_41 : decode kb_ModuleTable_firstFit 41 = .ok (.iconst (-1), 1) := by decide +kernel
theorem zd_ModuleTable_firstFit_42 : decode kb_ModuleTable_firstFit 42 = .ok (.ireturn, 1) := by decide +kernel
def zf_ModuleTable_firstFit_b2 : Nat → zz_S → Int32 → Int32 → Option (Int32 × zz_S)
  | 0, _, _, _ => none
  | n + 1, u, x1, x2 => if (u.1 16) ≤ x2 then (some ((-1 : Int32), u)) else (xx_b2 (zf_ModuleTable_gapRows u x2) fun v2 u1 => xx_b2 (zf_ModuleTable_rowsFor u1 x1) fun v4 u3 => if v2 < v4 then (xx_nm (x2 + (1 : Int32)) fun v5 => (zf_ModuleTable_firstFit_b2 n) u3 x1 v5) else (xx_b2 (zf_ModuleTable_gapStart u3 x2) fun v7 u6 => some (((512 : Int32) + ((16 : Int32) * v7)), u6)))
def zf_ModuleTable_firstFit (u : zz_S) (x1 : Int32) : Option (Int32 × zz_S) := xx_nm (-1 : Int32) fun v1 => zf_ModuleTable_firstFit_b2 xx_fu u x1 v1
set_option maxHeartbeats 4000000 in
set_option maxRecDepth 100000 in
theorem zw_ModuleTable_firstFit_b2 {p : Program} {l : Launch} {e : Env} {s : State} {m : MethodId} {args : Array Value} {below : List Frame} {meth : Method} {c : Code} {A : Nat → Prop} {g : xx_G} {r : Int32} {u9 : zz_S} (C : xx_C p s m args meth c kb_ModuleTable_firstFit 3 kr_ModuleTable (some .int)) (hA : ∀ q, s.heap.size ≤ q → A q) (hK : va_K g.1 xx_cls (zz_T g) s) : ∀ (n : Nat), ∀ (u : zz_S) (x1 : Int32) (x2 : Int32) (H : Heap) (locs : List Loc) (ls : Array Slot), zf_ModuleTable_firstFit_b2 n u x1 x2 = some (r, u9) → lv_has ls 3 [(0, .ref (g.2.1 11)), (1, .int x1), (2, .int x2)] → va_P g.1 xx_cls (zz_W g u) H → va_D A (zz_W g u) → va_S A s.heap H locs → W p l e (xx_rm 3 65) s m args below meth c H locs 0 0 (MQ below (xx_Q g.1 (zz_T g) (zz_W g) (some (.int r)) u9 A) args s 0 0 A) (F0 m 2 ls []) := by
  have hx := C.1
  have hb := C.2.1
  have hown := C.2.2.2.1
  have hts := C.2.2.2.2.1
  intro n
  induction n with
  | zero =>
    intro u x1 x2 H locs ls hF
    rw [zf_ModuleTable_firstFit_b2] at hF
    cases hF
  | succ n ih =>
    intro u x1 x2 H locs ls hF hl hP hD hS
    rw [zf_ModuleTable_firstFit_b2] at hF
    refine lv_iload_n hx hb zd_ModuleTable_firstFit_2 rfl (lv_at hl 2 rfl) ?_
    refine lv_aload_n hx hb zd_ModuleTable_firstFit_3 rfl (lv_at hl 0 rfl) ?_
    refine xx_get C ki_ModuleTable hK hP 11 rfl rfl 1 (by decide) kw_154 rfl rfl zd_ModuleTable_firstFit_4 ?_
    refine lv_icmp_ge (tgt := 41) hx hb zd_ModuleTable_firstFit_7 (by decide) (fun hc => ?_) (fun hc => ?_)
    · have hF := xx_ip hc hF
      refine lv_iconst (v := (-1 : Int32)) hx hb zd_ModuleTable_firstFit_41 (by decide) ?_
      exact xx_iret C hF hK hP hD hS zd_ModuleTable_firstFit_42
    · have hF := xx_in' hc hF
      refine lv_aload_n hx hb zd_ModuleTable_firstFit_10 rfl (lv_at hl 0 rfl) ?_
      refine lv_iload_n hx hb zd_ModuleTable_firstFit_11 rfl (lv_at hl 2 rfl) ?_
      obtain ⟨v2, u1, eu1, hF⟩ := xx_b2_some hF
      refine xx_callV (n := 1) (As := [.int x2]) (rest := []) C (zc_ModuleTable_gapRows l g u x2 v2 u1 eu1) ⟨kw_311, kw_308, kw_310, ks_ModuleTable_gapRows, kw_7⟩ ⟨by decide +kernel, by decide +kernel, by decide +kernel⟩ rfl ⟨Nat.le_of_ble_eq_true rfl, Nat.le_of_ble_eq_true rfl⟩ 11 rfl rfl hl.1 rfl (Nat.le_of_ble_eq_true rfl) hA hK hP hD hS ⟨Nat.le_refl _, Nat.le_refl _⟩ rfl rfl rfl zd_ModuleTable_firstFit_12 (fun H locs hP hD hS => ?_)
      refine lv_iload_n hx hb zd_ModuleTable_firstFit_15 rfl (lv_at hl 1 rfl) ?_
      obtain ⟨v4, u3, eu3, hF⟩ := xx_b2_some hF
      refine xx_callS (n := 1) (As := [.int x1]) (rest := [.int v2]) C (zc_ModuleTable_rowsFor l g u1 x1 v4 u3 eu3) ⟨kw_609, kw_607, kw_608, kw_7⟩ ⟨by decide +kernel, by decide +kernel, by decide +kernel⟩ rfl ⟨Nat.le_of_ble_eq_true rfl, Nat.le_of_ble_eq_true rfl⟩ hl.1 rfl (Nat.le_of_ble_eq_true rfl) hA hK hP hD hS ⟨Nat.le_refl _, Nat.le_refl _⟩ rfl rfl rfl zd_ModuleTable_firstFit_16 (fun H locs hP hD hS => ?_)
      refine lv_icmp_lt (tgt := 35) hx hb zd_ModuleTable_firstFit_19 (by decide) (fun hc => ?_) (fun hc => ?_)
      · have hF := xx_ip hc hF
        obtain ⟨v5, ev5, hF⟩ := xx_nm_some hF
        refine lv_iinc (k := 2) (v := v5) hx hb zd_ModuleTable_firstFit_35 hl rfl (by rw [ev5, xx_lit1]) (by decide) rfl (fun ls hl => ?_)
        refine lv_goto (tgt := 2) hx hb zd_ModuleTable_firstFit_38 (by decide) ?_
        exact ih u3 x1 v5 _ _ _ hF (lv_sub hl [1, 2, 0] rfl) hP hD hS
      · have hF := xx_in' hc hF
        refine lv_sipush (v := (512 : Int32)) hx hb zd_ModuleTable_firstFit_22 (by decide) ?_
        refine lv_bipush (v := (16 : Int32)) hx hb zd_ModuleTable_firstFit_25 (by decide) ?_
        refine lv_aload_n hx hb zd_ModuleTable_firstFit_27 rfl (lv_at hl 0 rfl) ?_
        refine lv_iload_n hx hb zd_ModuleTable_firstFit_28 rfl (lv_at hl 2 rfl) ?_
        obtain ⟨v7, u6, eu6, hF⟩ := xx_b2_some hF
        refine xx_callV (n := 1) (As := [.int x2]) (rest := [.int (16 : Int32), .int (512 : Int32)]) C (zc_ModuleTable_gapStart l g u3 x2 v7 u6 eu6) ⟨kw_319, kw_316, kw_318, ks_ModuleTable_gapStart, kw_7⟩ ⟨by decide +kernel, by decide +kernel, by decide +kernel⟩ rfl ⟨Nat.le_of_ble_eq_true rfl, Nat.le_of_ble_eq_true rfl⟩ 11 rfl rfl hl.1 rfl (Nat.le_of_ble_eq_true rfl) hA hK hP hD hS ⟨Nat.le_refl _, Nat.le_refl _⟩ rfl rfl rfl zd_ModuleTable_firstFit_29 (fun H locs hP hD hS => ?_)
        refine lv_imul hx hb zd_ModuleTable_firstFit_32 ?_
        refine lv_iadd hx hb zd_ModuleTable_firstFit_33 ?_
        exact xx_iret C hF hK hP hD hS zd_ModuleTable_firstFit_34
set_option maxHeartbeats 4000000 in
set_option maxRecDepth 100000 in
theorem zc_ModuleTable_firstFit (l : Launch) (g : xx_G) (u : zz_S) (x1 : Int32) (r : Int32) (u9 : zz_S) (hF : zf_ModuleTable_firstFit u x1 = some (r, u9)) : xx_M l g.1 (zz_T g) (zz_W g) ky_ModuleTable_firstFit kb_ModuleTable_firstFit 3 (some .int) (xx_rm 3 65) [.ref (g.2.1 11), .int x1] u (some (.int r)) u9 := by
  refine xx_body (by decide) (Nat.le_of_ble_eq_true rfl) ?_
  intro p e s m args below meth c A ls C hin hK hl hA hP hD hS
  have hx := C.1
  have hb := C.2.1
  have hown := C.2.2.2.1
  have hts := C.2.2.2.2.1
  have hl : lv_has ls 3 [(0, .ref (g.2.1 11)), (1, .int x1)] := hl
  unfold zf_ModuleTable_firstFit at hF
  refine lv_iconst (v := (-1 : Int32)) hx hb zd_ModuleTable_firstFit_0 (by decide) ?_
  obtain ⟨v1, ev1, hF⟩ := xx_nm_some hF
  refine xx_topi ev1 ?_
  refine lv_istore_n hx hb zd_ModuleTable_firstFit_1 rfl hl (by decide) rfl (fun ls hl => ?_)
  exact zw_ModuleTable_firstFit_b2 C hA hK xx_fu u x1 v1 _ _ _ hF (lv_sub hl [1, 2, 0] rfl) hP hD hS
theorem zd_ModuleTable_freeRows_0 : decode kb_ModuleTable_freeRows 0 = .ok (.iconst 0, 1) := by decide +kernel
theorem zd_ModuleTable_freeRows_1 : decode kb_ModuleTable_freeRows 1 = .ok (.istore_n 1, 1) := by decide +kernel
theorem zd_ModuleTable_freeRows_2 : decode kb_ModuleTable_freeRows 2 = .ok (.iconst (-1), 1) := by decide +kernel
theorem zd_ModuleTable_freeRows_3 : decode kb_ModuleTable_freeRows 3 = .ok (.istore_n 2, 1) := by decide +kernel
theorem zd_ModuleTable_freeRows_4 : decode kb_ModuleTable_freeRows 4 = .ok (.iload_n 2, 1) := by decide +kernel
theorem zd_ModuleTable_freeRows_5 : decode kb_ModuleTable_freeRows 5 = .ok (.aload_n 0, 1) := by decide +kernel
theorem zd_ModuleTable_freeRows_6 : decode kb_ModuleTable_freeRows 6 = .ok (.getfield 17, 3) := by decide +kernel
theorem zd_ModuleTable_freeRows_9 : decode kb_ModuleTable_freeRows 9 = .ok (.if_icmp .ge (17), 3) := by decide +kernel
theorem zd_ModuleTable_freeRows_12 : decode kb_ModuleTable_freeRows 12 = .ok (.iload_n 1, 1) := by decide +kernel
theorem zd_ModuleTable_freeRows_13 : decode kb_ModuleTable_freeRows 13 = .ok (.aload_n 0, 1) := by decide +kernel
theorem zd_ModuleTable_freeRows_14 : decode kb_ModuleTable_freeRows 14 = .ok (.iload_n 2, 1) := by decide +kernel
theorem zd_ModuleTable_freeRows_15 : decode kb_ModuleTable_freeRows 15 = .ok (.invokevirtual 49, 3) := by decide +kernel
theorem zd_ModuleTable_freeRows_18 : decode kb_ModuleTable_freeRows 18 = .ok (.iadd, 1) := by decide +kernel
theorem zd_ModuleTable_freeRows_19 : decode kb_ModuleTable_freeRows 19 = .ok (.istore_n 1, 1) := by decide +kernel
theorem zd_ModuleTable_freeRows_20 : decode kb_ModuleTable_freeRows 20 = .ok (.iinc 2 (1), 3) := by decide +kernel
theorem zd_ModuleTable_freeRows_23 : decode kb_ModuleTable_freeRows 23 = .ok (.goto (-19), 3) := by decide +kernel
theorem zd_ModuleTable_freeRows_26 : decode kb_ModuleTable_freeRows 26 = .ok (.iload_n 1, 1) := by decide +kernel
theorem zd_ModuleTable_freeRows_27 : decode kb_ModuleTable_freeRows 27 = .ok (.ireturn, 1) := by decide +kernel
def zf_ModuleTable_freeRows_b4 : Nat → zz_S → Int32 → Int32 → Option (Int32 × zz_S)
  | 0, _, _, _ => none
  | n + 1, u, x1, x2 => if (u.1 16) ≤ x2 then (some (x1, u)) else (xx_b2 (zf_ModuleTable_gapRows u x2) fun v2 u1 => xx_nm (x1 + v2) fun v3 => xx_nm (x2 + (1 : Int32)) fun v4 => (zf_ModuleTable_freeRows_b4 n) u1 v3 v4)
def zf_ModuleTable_freeRows (u : zz_S) : Option (Int32 × zz_S) := xx_nm (0 : Int32) fun v1 => xx_nm (-1 : Int32) fun v2 => zf_ModuleTable_freeRows_b4 xx_fu u v1 v2
set_option maxHeartbeats 4000000 in
set_option maxRecDepth 100000 in
theorem zw_ModuleTable_freeRows_b4 {p : Program} {l : Launch} {e : Env} {s : State} {m : MethodId} {args : Array Value} {below : List Frame} {meth : Method} {c : Code} {A : Nat → Prop} {g : xx_G} {r : Int32} {u9 : zz_S} (C : xx_C p s m args meth c kb_ModuleTable_freeRows 3 kr_ModuleTable (some .int)) (hA : ∀ q, s.heap.size ≤ q → A q) (hK : va_K g.1 xx_cls (zz_T g) s) : ∀ (n : Nat), ∀ (u : zz_S) (x1 : Int32) (x2 : Int32) (H : Heap) (locs : List Loc) (ls : Array Slot), zf_ModuleTable_freeRows_b4 n u x1 x2 = some (r, u9) → lv_has ls 3 [(0, .ref (g.2.1 11)), (1, .int x1), (2, .int x2)] → va_P g.1 xx_cls (zz_W g u) H → va_D A (zz_W g u) → va_S A s.heap H locs → W p l e (xx_rm 3 65) s m args below meth c H locs 0 0 (MQ below (xx_Q g.1 (zz_T g) (zz_W g) (some (.int r)) u9 A) args s 0 0 A) (F0 m 4 ls []) := by
  have hx := C.1
  have hb := C.2.1
  have hown := C.2.2.2.1
  have hts := C.2.2.2.2.1
  intro n
  induction n with
  | zero =>
    intro u x1 x2 H locs ls hF
    rw [zf_ModuleTable_freeRows_b4] at hF
    cases hF
  | succ n ih =>
    intro u x1 x2 H locs ls hF hl hP hD hS
    rw [zf_ModuleTable_freeRows_b4] at hF
    refine lv_iload_n hx hb zd_ModuleTable_freeRows_4 rfl (lv_at hl 2 rfl) ?_
    refine lv_aload_n hx hb zd_ModuleTable_freeRows_5 rfl (lv_at hl 0 rfl) ?_
    refine xx_get C ki_ModuleTable hK hP 11 rfl rfl 1 (by decide) kw_154 rfl rfl zd_ModuleTable_freeRows_6 ?_
    refine lv_icmp_ge (tgt := 26) hx hb zd_ModuleTable_freeRows_9 (by decide) (fun hc => ?_) (fun hc => ?_)
    · have hF := xx_ip hc hF
      refine lv_iload_n hx hb zd_ModuleTable_freeRows_26 rfl (lv_at hl 1 rfl) ?_
      exact xx_iret C hF hK hP hD hS zd_ModuleTable_freeRows_27
    · have hF := xx_in' hc hF
      refine lv_iload_n hx hb zd_ModuleTable_freeRows_12 rfl (lv_at hl 1 rfl) ?_
      refine lv_aload_n hx hb zd_ModuleTable_freeRows_13 rfl (lv_at hl 0 rfl) ?_
      refine lv_iload_n hx hb zd_ModuleTable_freeRows_14 rfl (lv_at hl 2 rfl) ?_
      obtain ⟨v2, u1, eu1, hF⟩ := xx_b2_some hF
      refine xx_callV (n := 1) (As := [.int x2]) (rest := [.int x1]) C (zc_ModuleTable_gapRows l g u x2 v2 u1 eu1) ⟨kw_311, kw_308, kw_310, ks_ModuleTable_gapRows, kw_7⟩ ⟨by decide +kernel, by decide +kernel, by decide +kernel⟩ rfl ⟨Nat.le_of_ble_eq_true rfl, Nat.le_of_ble_eq_true rfl⟩ 11 rfl rfl hl.1 rfl (Nat.le_of_ble_eq_true rfl) hA hK hP hD hS ⟨Nat.le_refl _, Nat.le_refl _⟩ rfl rfl rfl zd_ModuleTable_freeRows_15 (fun H locs hP hD hS => ?_)
      refine lv_iadd hx hb zd_ModuleTable_freeRows_18 ?_
      obtain ⟨v3, ev3, hF⟩ := xx_nm_some hF
      refine xx_topi ev3 ?_
      refine lv_istore_n hx hb zd_ModuleTable_freeRows_19 rfl hl (by decide) rfl (fun ls hl => ?_)
      obtain ⟨v4, ev4, hF⟩ := xx_nm_some hF
      refine lv_iinc (k := 2) (v := v4) hx hb zd_ModuleTable_freeRows_20 hl rfl (by rw [ev4, xx_lit1]) (by decide) rfl (fun ls hl => ?_)
      refine lv_goto (tgt := 4) hx hb zd_ModuleTable_freeRows_23 (by decide) ?_
      exact ih u1 v3 v4 _ _ _ hF (lv_sub hl [2, 1, 0] rfl) hP hD hS
set_option maxHeartbeats 4000000 in
set_option maxRecDepth 100000 in
theorem zc_ModuleTable_freeRows (l : Launch) (g : xx_G) (u : zz_S) (r : Int32) (u9 : zz_S) (hF : zf_ModuleTable_freeRows u = some (r, u9)) : xx_M l g.1 (zz_T g) (zz_W g) ky_ModuleTable_freeRows kb_ModuleTable_freeRows 3 (some .int) (xx_rm 3 65) [.ref (g.2.1 11)] u (some (.int r)) u9 := by
  refine xx_body (by decide) (Nat.le_of_ble_eq_true rfl) ?_
  intro p e s m args below meth c A ls C hin hK hl hA hP hD hS
  have hx := C.1
  have hb := C.2.1
  have hown := C.2.2.2.1
  have hts := C.2.2.2.2.1
  have hl : lv_has ls 3 [(0, .ref (g.2.1 11))] := hl
  unfold zf_ModuleTable_freeRows at hF
  refine lv_iconst (v := (0 : Int32)) hx hb zd_ModuleTable_freeRows_0 (by decide) ?_
  obtain ⟨v1, ev1, hF⟩ := xx_nm_some hF
  refine xx_topi ev1 ?_
  refine lv_istore_n hx hb zd_ModuleTable_freeRows_1 rfl hl (by decide) rfl (fun ls hl => ?_)
  refine lv_iconst (v := (-1 : Int32)) hx hb zd_ModuleTable_freeRows_2 (by decide) ?_
  obtain ⟨v2, ev2, hF⟩ := xx_nm_some hF
  refine xx_topi ev2 ?_
  refine lv_istore_n hx hb zd_ModuleTable_freeRows_3 rfl hl (by decide) rfl (fun ls hl => ?_)
  exact zw_ModuleTable_freeRows_b4 C hA hK xx_fu u v1 v2 _ _ _ hF (lv_sub hl [2, 1, 0] rfl) hP hD hS
theorem kw_324 : Cond.methodLink "ModuleLoader$ModuleTable" 55 Lib.Math.max.name ∈ xx_tb := xx_in (List.mem_append_right _ (List.mem_of_getElem? (i := 324) (by decide +kernel))) (by decide +kernel)
theorem kw_325 : Cond.static Lib.Math.max.name ∈ xx_tb := xx_in (List.mem_append_right _ (List.mem_of_getElem? (i := 325) (by decide +kernel))) (by decide +kernel)
theorem kw_20 : Cond.initialized "java/lang/Math" ∈ xx_tb := xx_in (List.mem_append_right _ (List.mem_of_getElem? (i := 20) (by decide +kernel))) (by decide +kernel)
set_option maxRecDepth 100000 in
theorem kw_326 : Cond.code Lib.Math.max.name Lib.Math.max.code 2 (some .int) ∈ xx_tb := xx_in (List.mem_append_right _ (List.mem_of_getElem? (i := 326) (by rfl))) (by decide +kernel)
theorem zd_ModuleTable_longestGap_0 : decode kb_ModuleTable_longestGap 0 = .ok (.iconst 0, 1) := by decide +kernel
theorem zd_ModuleTable_longestGap_1 : decode kb_ModuleTable_longestGap 1 = .ok (.istore_n 1, 1) := by decide +kernel
theorem zd_ModuleTable_longestGap_2 : decode kb_ModuleTable_longestGap 2 = .ok (.iconst (-1), 1) := by decide +kernel
theorem zd_ModuleTable_longestGap_3 : decode kb_ModuleTable_longestGap 3 = .ok (.istore_n 2, 1) := by decide +kernel
theorem zd_ModuleTable_longestGap_4 : decode kb_ModuleTable_longestGap 4 = .ok (.iload_n 2, 1) := by decide +kernel
theorem zd_ModuleTable_longestGap_5 : decode kb_ModuleTable_longestGap 5 = .ok (.aload_n 0, 1) := by decide +kernel
theorem zd_ModuleTable_longestGap_6 : decode kb_ModuleTable_longestGap 6 = .ok (.getfield 17, 3) := by decide +kernel
theorem zd_ModuleTable_longestGap_9 : decode kb_ModuleTable_longestGap 9 = .ok (.if_icmp .ge (19), 3) := by decide +kernel
theorem zd_ModuleTable_longestGap_12 : decode kb_ModuleTable_longestGap 12 = .ok (.iload_n 1, 1) := by decide +kernel
theorem zd_ModuleTable_longestGap_13 : decode kb_ModuleTable_longestGap 13 = .ok (.aload_n 0, 1) := by decide +kernel
theorem zd_ModuleTable_longestGap_14 : decode kb_ModuleTable_longestGap 14 = .ok (.iload_n 2, 1) := by decide +kernel
theorem zd_ModuleTable_longestGap_15 : decode kb_ModuleTable_longestGap 15 = .ok (.invokevirtual 49, 3) := by decide +kernel
theorem zd_ModuleTable_longestGap_18 : decode kb_ModuleTable_longestGap 18 = .ok (.invokestatic 55, 3) := by decide +kernel
theorem zd_ModuleTable_longestGap_21 : decode kb_ModuleTable_longestGap 21 = .ok (.istore_n 1, 1) := by decide +kernel
theorem zd_ModuleTable_longestGap_22 : decode kb_ModuleTable_longestGap 22 = .ok (.iinc 2 (1), 3) := by decide +kernel
theorem zd_ModuleTable_longestGap_25 : decode kb_ModuleTable_longestGap 25 = .ok (.goto (-21), 3) := by decide +kernel
theorem zd_ModuleTable_longestGap_28 : decode kb_ModuleTable_longestGap 28 = .ok (.iload_n 1, 1) := by decide +kernel
theorem zd_ModuleTable_longestGap_29 : decode kb_ModuleTable_longestGap 29 = .ok (.ireturn, 1) := by decide +kernel
def zf_ModuleTable_longestGap_b4 : Nat → zz_S → Int32 → Int32 → Option (Int32 × zz_S)
  | 0, _, _, _ => none
  | n + 1, u, x1, x2 => if (u.1 16) ≤ x2 then (some (x1, u)) else (xx_b2 (zf_ModuleTable_gapRows u x2) fun v2 u1 => xx_nm (if x1 < v2 then v2 else x1) fun v3 => xx_nm (x2 + (1 : Int32)) fun v4 => (zf_ModuleTable_longestGap_b4 n) u1 v3 v4)
def zf_ModuleTable_longestGap (u : zz_S) : Option (Int32 × zz_S) := xx_nm (0 : Int32) fun v1 => xx_nm (-1 : Int32) fun v2 => zf_ModuleTable_longestGap_b4 xx_fu u v1 v2
set_option maxHeartbeats 4000000 in
set_option maxRecDepth 100000 in
theorem zw_ModuleTable_longestGap_b4 {p : Program} {l : Launch} {e : Env} {s : State} {m : MethodId} {args : Array Value} {below : List Frame} {meth : Method} {c : Code} {A : Nat → Prop} {g : xx_G} {r : Int32} {u9 : zz_S} (C : xx_C p s m args meth c kb_ModuleTable_longestGap 3 kr_ModuleTable (some .int)) (hA : ∀ q, s.heap.size ≤ q → A q) (hK : va_K g.1 xx_cls (zz_T g) s) : ∀ (n : Nat), ∀ (u : zz_S) (x1 : Int32) (x2 : Int32) (H : Heap) (locs : List Loc) (ls : Array Slot), zf_ModuleTable_longestGap_b4 n u x1 x2 = some (r, u9) → lv_has ls 3 [(0, .ref (g.2.1 11)), (1, .int x1), (2, .int x2)] → va_P g.1 xx_cls (zz_W g u) H → va_D A (zz_W g u) → va_S A s.heap H locs → W p l e (xx_rm 3 65) s m args below meth c H locs 0 0 (MQ below (xx_Q g.1 (zz_T g) (zz_W g) (some (.int r)) u9 A) args s 0 0 A) (F0 m 4 ls []) := by
  have hx := C.1
  have hb := C.2.1
  have hown := C.2.2.2.1
  have hts := C.2.2.2.2.1
  intro n
  induction n with
  | zero =>
    intro u x1 x2 H locs ls hF
    rw [zf_ModuleTable_longestGap_b4] at hF
    cases hF
  | succ n ih =>
    intro u x1 x2 H locs ls hF hl hP hD hS
    rw [zf_ModuleTable_longestGap_b4] at hF
    refine lv_iload_n hx hb zd_ModuleTable_longestGap_4 rfl (lv_at hl 2 rfl) ?_
    refine lv_aload_n hx hb zd_ModuleTable_longestGap_5 rfl (lv_at hl 0 rfl) ?_
    refine xx_get C ki_ModuleTable hK hP 11 rfl rfl 1 (by decide) kw_154 rfl rfl zd_ModuleTable_longestGap_6 ?_
    refine lv_icmp_ge (tgt := 28) hx hb zd_ModuleTable_longestGap_9 (by decide) (fun hc => ?_) (fun hc => ?_)
    · have hF := xx_ip hc hF
      refine lv_iload_n hx hb zd_ModuleTable_longestGap_28 rfl (lv_at hl 1 rfl) ?_
      exact xx_iret C hF hK hP hD hS zd_ModuleTable_longestGap_29
    · have hF := xx_in' hc hF
      refine lv_iload_n hx hb zd_ModuleTable_longestGap_12 rfl (lv_at hl 1 rfl) ?_
      refine lv_aload_n hx hb zd_ModuleTable_longestGap_13 rfl (lv_at hl 0 rfl) ?_
      refine lv_iload_n hx hb zd_ModuleTable_longestGap_14 rfl (lv_at hl 2 rfl) ?_
      obtain ⟨v2, u1, eu1, hF⟩ := xx_b2_some hF
      refine xx_callV (n := 1) (As := [.int x2]) (rest := [.int x1]) C (zc_ModuleTable_gapRows l g u x2 v2 u1 eu1) ⟨kw_311, kw_308, kw_310, ks_ModuleTable_gapRows, kw_7⟩ ⟨by decide +kernel, by decide +kernel, by decide +kernel⟩ rfl ⟨Nat.le_of_ble_eq_true rfl, Nat.le_of_ble_eq_true rfl⟩ 11 rfl rfl hl.1 rfl (Nat.le_of_ble_eq_true rfl) hA hK hP hD hS ⟨Nat.le_refl _, Nat.le_refl _⟩ rfl rfl rfl zd_ModuleTable_longestGap_15 (fun H locs hP hD hS => ?_)
      refine va_mmax hx hb (by rw [hl.1]; exact C.2.2.1) hown (hts _ kw_324) (hts _ kw_325) (hts _ kw_20) (hts _ kw_326) (Nat.le_of_ble_eq_true rfl) (Nat.le_of_ble_eq_true rfl) (Nat.zero_le _) (Nat.zero_le _) zd_ModuleTable_longestGap_18 ?_
      obtain ⟨v3, ev3, hF⟩ := xx_nm_some hF
      refine xx_topi ev3 ?_
      refine lv_istore_n hx hb zd_ModuleTable_longestGap_21 rfl hl (by decide) rfl (fun ls hl => ?_)
      obtain ⟨v4, ev4, hF⟩ := xx_nm_some hF
      refine lv_iinc (k := 2) (v := v4) hx hb zd_ModuleTable_longestGap_22 hl rfl (by rw [ev4, xx_lit1]) (by decide) rfl (fun ls hl => ?_)
      refine lv_goto (tgt := 4) hx hb zd_ModuleTable_longestGap_25 (by decide) ?_
      exact ih u1 v3 v4 _ _ _ hF (lv_sub hl [2, 1, 0] rfl) hP hD hS
set_option maxHeartbeats 4000000 in
set_option maxRecDepth 100000 in
theorem zc_ModuleTable_longestGap (l : Launch) (g : xx_G) (u : zz_S) (r : Int32) (u9 : zz_S) (hF : zf_ModuleTable_longestGap u = some (r, u9)) : xx_M l g.1 (zz_T g) (zz_W g) ky_ModuleTable_longestGap kb_ModuleTable_longestGap 3 (some .int) (xx_rm 3 65) [.ref (g.2.1 11)] u (some (.int r)) u9 := by
  refine xx_body (by decide) (Nat.le_of_ble_eq_true rfl) ?_
  intro p e s m args below meth c A ls C hin hK hl hA hP hD hS
  have hx := C.1
  have hb := C.2.1
  have hown := C.2.2.2.1
  have hts := C.2.2.2.2.1
  have hl : lv_has ls 3 [(0, .ref (g.2.1 11))] := hl
  unfold zf_ModuleTable_longestGap at hF
  refine lv_iconst (v := (0 : Int32)) hx hb zd_ModuleTable_longestGap_0 (by decide) ?_
  obtain ⟨v1, ev1, hF⟩ := xx_nm_some hF
  refine xx_topi ev1 ?_
  refine lv_istore_n hx hb zd_ModuleTable_longestGap_1 rfl hl (by decide) rfl (fun ls hl => ?_)
  refine lv_iconst (v := (-1 : Int32)) hx hb zd_ModuleTable_longestGap_2 (by decide) ?_
  obtain ⟨v2, ev2, hF⟩ := xx_nm_some hF
  refine xx_topi ev2 ?_
  refine lv_istore_n hx hb zd_ModuleTable_longestGap_3 rfl hl (by decide) rfl (fun ls hl => ?_)
  exact zw_ModuleTable_longestGap_b4 C hA hK xx_fu u v1 v2 _ _ _ hF (lv_sub hl [2, 1, 0] rfl) hP hD hS
set_option maxRecDepth 100000 in
theorem kw_299 : Cond.code ky_ModuleTable_size kb_ModuleTable_size 1 (some .int) ∈ xx_tb := xx_in (List.mem_append_right _ (List.mem_of_getElem? (i := 299) (by rfl))) (by decide +kernel)
theorem kw_296 : Cond.methodLink "ModuleLoader" 206 ky_ModuleTable_size ∈ xx_tb := xx_in (List.mem_append_right _ (List.mem_of_getElem? (i := 296) (by decide +kernel))) (by decide +kernel)
theorem kw_297 : Cond.instanceMethod ky_ModuleTable_size ∈ xx_tb := xx_in (List.mem_append_right _ (List.mem_of_getElem? (i := 297) (by decide +kernel))) (by decide +kernel)
theorem kw_298 : Cond.selects "ModuleLoader$ModuleTable" ky_ModuleTable_size ky_ModuleTable_size ∈ xx_tb := xx_in (List.mem_append_right _ (List.mem_of_getElem? (i := 298) (by decide +kernel))) (by decide +kernel)
set_option maxRecDepth 100000 in
theorem kw_303 : Cond.code ky_SymbolTable_size kb_SymbolTable_size 1 (some .int) ∈ xx_tb := xx_in (List.mem_append_right _ (List.mem_of_getElem? (i := 303) (by rfl))) (by decide +kernel)
theorem kw_300 : Cond.methodLink "ModuleLoader" 208 ky_SymbolTable_size ∈ xx_tb := xx_in (List.mem_append_right _ (List.mem_of_getElem? (i := 300) (by decide +kernel))) (by decide +kernel)
theorem kw_301 : Cond.instanceMethod ky_SymbolTable_size ∈ xx_tb := xx_in (List.mem_append_right _ (List.mem_of_getElem? (i := 301) (by decide +kernel))) (by decide +kernel)
theorem kw_302 : Cond.selects "ModuleLoader$SymbolTable" ky_SymbolTable_size ky_SymbolTable_size ∈ xx_tb := xx_in (List.mem_append_right _ (List.mem_of_getElem? (i := 302) (by decide +kernel))) (by decide +kernel)
set_option maxRecDepth 100000 in
theorem kw_307 : Cond.code ky_ModuleTable_freeRows kb_ModuleTable_freeRows 3 (some .int) ∈ xx_tb := xx_in (List.mem_append_right _ (List.mem_of_getElem? (i := 307) (by rfl))) (by decide +kernel)
theorem kw_304 : Cond.methodLink "ModuleLoader" 209 ky_ModuleTable_freeRows ∈ xx_tb := xx_in (List.mem_append_right _ (List.mem_of_getElem? (i := 304) (by decide +kernel))) (by decide +kernel)
theorem kw_305 : Cond.instanceMethod ky_ModuleTable_freeRows ∈ xx_tb := xx_in (List.mem_append_right _ (List.mem_of_getElem? (i := 305) (by decide +kernel))) (by decide +kernel)
theorem kw_306 : Cond.selects "ModuleLoader$ModuleTable" ky_ModuleTable_freeRows ky_ModuleTable_freeRows ∈ xx_tb := xx_in (List.mem_append_right _ (List.mem_of_getElem? (i := 306) (by decide +kernel))) (by decide +kernel)
set_option maxRecDepth 100000 in
theorem kw_323 : Cond.code ky_ModuleTable_longestGap kb_ModuleTable_longestGap 3 (some .int) ∈ xx_tb := xx_in (List.mem_append_right _ (List.mem_of_getElem? (i := 323) (by rfl))) (by decide +kernel)
theorem kw_320 : Cond.methodLink "ModuleLoader" 212 ky_ModuleTable_longestGap ∈ xx_tb := xx_in (List.mem_append_right _ (List.mem_of_getElem? (i := 320) (by decide +kernel))) (by decide +kernel)
theorem kw_321 : Cond.instanceMethod ky_ModuleTable_longestGap ∈ xx_tb := xx_in (List.mem_append_right _ (List.mem_of_getElem? (i := 321) (by decide +kernel))) (by decide +kernel)
theorem kw_322 : Cond.selects "ModuleLoader$ModuleTable" ky_ModuleTable_longestGap ky_ModuleTable_longestGap ∈ xx_tb := xx_in (List.mem_append_right _ (List.mem_of_getElem? (i := 322) (by decide +kernel))) (by decide +kernel)
theorem zd_Loader_count_0 : decode kb_Loader_count 0 = .ok (.iload_n 1, 1) := by decide +kernel
theorem zd_Loader_count_1 : decode kb_Loader_count 1 = .ok (.tableswitch (75) (0) (4) #[35, 43, 51, 59, 67], 35) := by decide +kernel
theorem zd_Loader_count_36 : decode kb_Loader_count 36 = .ok (.aload_n 0, 1) := by decide +kernel
theorem zd_Loader_count_37 : decode kb_Loader_count 37 = .ok (.getfield 51, 3) := by decide +kernel
theorem zd_Loader_count_40 : decode kb_Loader_count 40 = .ok (.invokevirtual 206, 3) := by decide +kernel
theorem zd_Loader_count_43 : decode kb_Loader_count 43 = .ok (.ireturn, 1) := by decide +kernel
theorem zd_Loader_count_44 : decode kb_Loader_count 44 = .ok (.aload_n 0, 1) := by decide +kernel
theorem zd_Loader_count_45 : decode kb_Loader_count 45 = .ok (.getfield 44, 3) := by decide +kernel
theorem zd_Loader_count_48 : decode kb_Loader_count 48 = .ok (.invokevirtual 208, 3) := by decide +kernel
theorem zd_Loader_count_51 : decode kb_Loader_count 51 = .ok (.ireturn, 1) := by decide +kernel
theorem zd_Loader_count_52 : decode kb_Loader_count 52 = .ok (.aload_n 0, 1) := by decide +kernel
theorem zd_Loader_count_53 : decode kb_Loader_count 53 = .ok (.getfield 51, 3) := by decide +kernel
theorem zd_Loader_count_56 : decode kb_Loader_count 56 = .ok (.invokevirtual 209, 3) := by decide +kernel
theorem zd_Loader_count_59 : decode kb_Loader_count 59 = .ok (.ireturn, 1) := by decide +kernel
theorem zd_Loader_count_60 : decode kb_Loader_count 60 = .ok (.aload_n 0, 1) := by decide +kernel
theorem zd_Loader_count_61 : decode kb_Loader_count 61 = .ok (.getfield 51, 3) := by decide +kernel
theorem zd_Loader_count_64 : decode kb_Loader_count 64 = .ok (.invokevirtual 212, 3) := by decide +kernel
theorem zd_Loader_count_67 : decode kb_Loader_count 67 = .ok (.ireturn, 1) := by decide +kernel
theorem zd_Loader_count_68 : decode kb_Loader_count 68 = .ok (.aload_n 0, 1) := by decide +kernel
theorem zd_Loader_count_69 : decode kb_Loader_count 69 = .ok (.getfield 28, 3) := by decide +kernel
theorem zd_Loader_count_72 : decode kb_Loader_count 72 = .ok (.invokevirtual 111, 3) := by decide +kernel
theorem zd_Loader_count_75 : decode kb_Loader_count 75 = .ok (.ireturn, 1) := by decide +kernel
theorem zd_Loader_count_76 : decode kb_Loader_count 76 = .ok (.iconst (-1), 1) := by decide +kernel
theorem zd_Loader_count_77 : decode kb_Loader_count 77 = .ok (.ireturn, 1) := by decide +kernel
def zf_Loader_count (u : zz_S) (x1 : Int32) : Option (Int32 × zz_S) := if x1 = 0 then (xx_b2 (zf_ModuleTable_size u) fun v2 u1 => some (v2, u1)) else (if x1 = 1 then (xx_b2 (zf_SymbolTable_size u) fun v4 u3 => some (v4, u3)) else (if x1 = 2 then (xx_b2 (zf_ModuleTable_freeRows u) fun v6 u5 => some (v6, u5)) else (if x1 = 3 then (xx_b2 (zf_ModuleTable_longestGap u) fun v8 u7 => some (v8, u7)) else (if x1 = 4 then (xx_b2 (zf_Tape_length u) fun v10 u9 => some (v10, u9)) else (some ((-1 : Int32), u))))))
set_option maxHeartbeats 4000000 in
set_option maxRecDepth 100000 in
theorem zc_Loader_count (l : Launch) (g : xx_G) (u : zz_S) (x1 : Int32) (r : Int32) (u9 : zz_S) (hF : zf_Loader_count u x1 = some (r, u9)) : xx_M l g.1 (zz_T g) (zz_W g) ky_Loader_count kb_Loader_count 2 (some .int) (xx_rm 4 87) [.ref (g.2.1 0), .int x1] u (some (.int r)) u9 := by
  refine xx_body (by decide) (Nat.le_of_ble_eq_true rfl) ?_
  intro p e s m args below meth c A ls C hin hK hl hA hP hD hS
  have hx := C.1
  have hb := C.2.1
  have hown := C.2.2.2.1
  have hts := C.2.2.2.2.1
  have hl : lv_has ls 2 [(0, .ref (g.2.1 0)), (1, .int x1)] := hl
  unfold zf_Loader_count at hF
  refine lv_iload_n hx hb zd_Loader_count_0 rfl (lv_at hl 1 rfl) ?_
  by_cases hs0 : x1 = (0 : Int32)
  · have hF := xx_ip hs0 hF
    refine lv_tableIn (off := 35) (tgt := 36) hx hb zd_Loader_count_1 (by rw [hs0]; decide) (by rw [hs0]; decide) (by rw [hs0]; rfl) (by decide) ?_
    refine lv_aload_n hx hb zd_Loader_count_36 rfl (lv_at hl 0 rfl) ?_
    refine xx_get C ki_Loader hK hP 0 rfl rfl 5 (by decide) kw_192 rfl rfl zd_Loader_count_37 ?_
    obtain ⟨v2, u1, eu1, hF⟩ := xx_b2_some hF
    refine xx_callV (n := 0) (As := []) (rest := []) C (zc_ModuleTable_size l g u v2 u1 eu1) ⟨kw_299, kw_296, kw_297, kw_298, kw_7⟩ ⟨by decide +kernel, by decide +kernel, by decide +kernel⟩ rfl ⟨Nat.le_of_ble_eq_true rfl, Nat.le_of_ble_eq_true rfl⟩ 11 rfl rfl hl.1 rfl (Nat.le_of_ble_eq_true rfl) hA hK hP hD hS ⟨Nat.le_refl _, Nat.le_refl _⟩ rfl rfl rfl zd_Loader_count_40 (fun H locs hP hD hS => ?_)
    exact xx_iret C hF hK hP hD hS zd_Loader_count_43
  · have hF := xx_in' hs0 hF
    by_cases hs1 : x1 = (1 : Int32)
    · have hF := xx_ip hs1 hF
      refine lv_tableIn (off := 43) (tgt := 44) hx hb zd_Loader_count_1 (by rw [hs1]; decide) (by rw [hs1]; decide) (by rw [hs1]; rfl) (by decide) ?_
      refine lv_aload_n hx hb zd_Loader_count_44 rfl (lv_at hl 0 rfl) ?_
      refine xx_get C ki_Loader hK hP 0 rfl rfl 4 (by decide) kw_191 rfl rfl zd_Loader_count_45 ?_
      obtain ⟨v4, u3, eu3, hF⟩ := xx_b2_some hF
      refine xx_callV (n := 0) (As := []) (rest := []) C (zc_SymbolTable_size l g u v4 u3 eu3) ⟨kw_303, kw_300, kw_301, kw_302, kw_6⟩ ⟨by decide +kernel, by decide +kernel, by decide +kernel⟩ rfl ⟨Nat.le_of_ble_eq_true rfl, Nat.le_of_ble_eq_true rfl⟩ 9 rfl rfl hl.1 rfl (Nat.le_of_ble_eq_true rfl) hA hK hP hD hS ⟨Nat.le_refl _, Nat.le_refl _⟩ rfl rfl rfl zd_Loader_count_48 (fun H locs hP hD hS => ?_)
      exact xx_iret C hF hK hP hD hS zd_Loader_count_51
    · have hF := xx_in' hs1 hF
      by_cases hs2 : x1 = (2 : Int32)
      · have hF := xx_ip hs2 hF
        refine lv_tableIn (off := 51) (tgt := 52) hx hb zd_Loader_count_1 (by rw [hs2]; decide) (by rw [hs2]; decide) (by rw [hs2]; rfl) (by decide) ?_
        refine lv_aload_n hx hb zd_Loader_count_52 rfl (lv_at hl 0 rfl) ?_
        refine xx_get C ki_Loader hK hP 0 rfl rfl 5 (by decide) kw_192 rfl rfl zd_Loader_count_53 ?_
        obtain ⟨v6, u5, eu5, hF⟩ := xx_b2_some hF
        refine xx_callV (n := 0) (As := []) (rest := []) C (zc_ModuleTable_freeRows l g u v6 u5 eu5) ⟨kw_307, kw_304, kw_305, kw_306, kw_7⟩ ⟨by decide +kernel, by decide +kernel, by decide +kernel⟩ rfl ⟨Nat.le_of_ble_eq_true rfl, Nat.le_of_ble_eq_true rfl⟩ 11 rfl rfl hl.1 rfl (Nat.le_of_ble_eq_true rfl) hA hK hP hD hS ⟨Nat.le_refl _, Nat.le_refl _⟩ rfl rfl rfl zd_Loader_count_56 (fun H locs hP hD hS => ?_)
        exact xx_iret C hF hK hP hD hS zd_Loader_count_59
      · have hF := xx_in' hs2 hF
        by_cases hs3 : x1 = (3 : Int32)
        · have hF := xx_ip hs3 hF
          refine lv_tableIn (off := 59) (tgt := 60) hx hb zd_Loader_count_1 (by rw [hs3]; decide) (by rw [hs3]; decide) (by rw [hs3]; rfl) (by decide) ?_
          refine lv_aload_n hx hb zd_Loader_count_60 rfl (lv_at hl 0 rfl) ?_
          refine xx_get C ki_Loader hK hP 0 rfl rfl 5 (by decide) kw_192 rfl rfl zd_Loader_count_61 ?_
          obtain ⟨v8, u7, eu7, hF⟩ := xx_b2_some hF
          refine xx_callV (n := 0) (As := []) (rest := []) C (zc_ModuleTable_longestGap l g u v8 u7 eu7) ⟨kw_323, kw_320, kw_321, kw_322, kw_7⟩ ⟨by decide +kernel, by decide +kernel, by decide +kernel⟩ rfl ⟨Nat.le_of_ble_eq_true rfl, Nat.le_of_ble_eq_true rfl⟩ 11 rfl rfl hl.1 rfl (Nat.le_of_ble_eq_true rfl) hA hK hP hD hS ⟨Nat.le_refl _, Nat.le_refl _⟩ rfl rfl rfl zd_Loader_count_64 (fun H locs hP hD hS => ?_)
          exact xx_iret C hF hK hP hD hS zd_Loader_count_67
        · have hF := xx_in' hs3 hF
          by_cases hs4 : x1 = (4 : Int32)
          · have hF := xx_ip hs4 hF
            refine lv_tableIn (off := 67) (tgt := 68) hx hb zd_Loader_count_1 (by rw [hs4]; decide) (by rw [hs4]; decide) (by rw [hs4]; rfl) (by decide) ?_
            refine lv_aload_n hx hb zd_Loader_count_68 rfl (lv_at hl 0 rfl) ?_
            refine xx_get C ki_Loader hK hP 0 rfl rfl 2 (by decide) kw_189 rfl rfl zd_Loader_count_69 ?_
            obtain ⟨v10, u9, eu9, hF⟩ := xx_b2_some hF
            refine xx_callV (n := 0) (As := []) (rest := []) C (zc_Tape_length l g u v10 u9 eu9) ⟨kw_239, kw_236, kw_237, kw_238, kw_4⟩ ⟨by decide +kernel, by decide +kernel, by decide +kernel⟩ rfl ⟨Nat.le_of_ble_eq_true rfl, Nat.le_of_ble_eq_true rfl⟩ 6 rfl rfl hl.1 rfl (Nat.le_of_ble_eq_true rfl) hA hK hP hD hS ⟨Nat.le_refl _, Nat.le_refl _⟩ rfl rfl rfl zd_Loader_count_72 (fun H locs hP hD hS => ?_)
            exact xx_iret C hF hK hP hD hS zd_Loader_count_75
          · have hF := xx_in' hs4 hF
            refine lv_tableOut (tgt := 76) hx hb zd_Loader_count_1 (by have h0 := lv_neT (a := 0) hs0 (by decide); have h1 := lv_neT (a := 1) hs1 (by decide); have h2 := lv_neT (a := 2) hs2 (by decide); have h3 := lv_neT (a := 3) hs3 (by decide); have h4 := lv_neT (a := 4) hs4 (by decide); omega) (by decide) ?_
            refine lv_iconst (v := (-1 : Int32)) hx hb zd_Loader_count_76 (by decide) ?_
            exact xx_iret C hF hK hP hD hS zd_Loader_count_77
theorem kw_96 : Cond.fieldLink "ModuleLoader" 261 "ModuleLoader$ModuleFile" "places" "I" ∈ xx_tb := xx_in (List.mem_append_right _ (List.mem_of_getElem? (i := 96) (by decide +kernel))) (by decide +kernel)
theorem kw_610 : Cond.methodLink "ModuleLoader" 264 ky_ModuleFile_placeKind ∈ xx_tb := xx_in (List.mem_append_right _ (List.mem_of_getElem? (i := 610) (by decide +kernel))) (by decide +kernel)
set_option maxRecDepth 100000 in
theorem kw_614 : Cond.code ky_Loader_distanceOf kb_Loader_distanceOf 3 (some .int) ∈ xx_tb := xx_in (List.mem_append_right _ (List.mem_of_getElem? (i := 614) (by rfl))) (by decide +kernel)
theorem kw_611 : Cond.methodLink "ModuleLoader" 267 ky_Loader_distanceOf ∈ xx_tb := xx_in (List.mem_append_right _ (List.mem_of_getElem? (i := 611) (by decide +kernel))) (by decide +kernel)
theorem kw_613 : Cond.instanceMethod ky_Loader_distanceOf ∈ xx_tb := xx_in (List.mem_append_right _ (List.mem_of_getElem? (i := 613) (by decide +kernel))) (by decide +kernel)
theorem ks_Loader_distanceOf : Cond.selects "ModuleLoader" ky_Loader_distanceOf ky_Loader_distanceOf ∈ xx_tb := xx_in (List.mem_append_left _ (by decide +kernel)) (by decide +kernel)
set_option maxRecDepth 100000 in
theorem kw_627 : Cond.code ky_Mender_reaches kb_Mender_reaches 3 (some .boolean) ∈ xx_tb := xx_in (List.mem_append_right _ (List.mem_of_getElem? (i := 627) (by rfl))) (by decide +kernel)
theorem kw_625 : Cond.methodLink "ModuleLoader" 271 ky_Mender_reaches ∈ xx_tb := xx_in (List.mem_append_right _ (List.mem_of_getElem? (i := 625) (by decide +kernel))) (by decide +kernel)
theorem kw_626 : Cond.static ky_Mender_reaches ∈ xx_tb := xx_in (List.mem_append_right _ (List.mem_of_getElem? (i := 626) (by decide +kernel))) (by decide +kernel)
theorem kw_89 : Cond.fieldLink "ModuleLoader" 257 "ModuleLoader$ModuleFile" "size" "I" ∈ xx_tb := xx_in (List.mem_append_right _ (List.mem_of_getElem? (i := 89) (by decide +kernel))) (by decide +kernel)
set_option maxRecDepth 100000 in
theorem kw_606 : Cond.code ky_ModuleTable_firstFit kb_ModuleTable_firstFit 3 (some .int) ∈ xx_tb := xx_in (List.mem_append_right _ (List.mem_of_getElem? (i := 606) (by rfl))) (by decide +kernel)
theorem kw_603 : Cond.methodLink "ModuleLoader" 258 ky_ModuleTable_firstFit ∈ xx_tb := xx_in (List.mem_append_right _ (List.mem_of_getElem? (i := 603) (by decide +kernel))) (by decide +kernel)
theorem kw_604 : Cond.instanceMethod ky_ModuleTable_firstFit ∈ xx_tb := xx_in (List.mem_append_right _ (List.mem_of_getElem? (i := 604) (by decide +kernel))) (by decide +kernel)
theorem kw_605 : Cond.selects "ModuleLoader$ModuleTable" ky_ModuleTable_firstFit ky_ModuleTable_firstFit ∈ xx_tb := xx_in (List.mem_append_right _ (List.mem_of_getElem? (i := 605) (by decide +kernel))) (by decide +kernel)
theorem zd_Loader_findRoom_0 : decode kb_Loader_findRoom 0 = .ok (.aload_n 0, 1) := by decide +kernel
theorem zd_Loader_findRoom_1 : decode kb_Loader_findRoom 1 = .ok (.getfield 51, 3) := by decide +kernel
theorem zd_Loader_findRoom_4 : decode kb_Loader_findRoom 4 = .ok (.aload_n 0, 1) := by decide +kernel
theorem zd_Loader_findRoom_5 : decode kb_Loader_findRoom 5 = .ok (.getfield 37, 3) := by decide +kernel
theorem zd_Loader_findRoom_8 : decode kb_Loader_findRoom 8 = .ok (.getfield 257, 3) := by decide +kernel
theorem zd_Loader_findRoom_11 : decode kb_Loader_findRoom 11 = .ok (.invokevirtual 258, 3) := by decide +kernel
theorem zd_Loader_findRoom_14 : decode kb_Loader_findRoom 14 = .ok (.istore_n 1, 1) := by decide +kernel
theorem zd_Loader_findRoom_15 : decode kb_Loader_findRoom 15 = .ok (.iload_n 1, 1) := by decide +kernel
theorem zd_Loader_findRoom_16 : decode kb_Loader_findRoom 16 = .ok (.iconst (-1), 1) := by decide +kernel
theorem zd_Loader_findRoom_17 : decode kb_Loader_findRoom 17 = .ok (.if_icmp .ne (15), 3) := by decide +kernel
theorem zd_Loader_findRoom_20 : decode kb_Loader_findRoom 20 = .ok (.aload_n 0, 1) := by decide +kernel
theorem zd_Loader_findRoom_21 : decode kb_Loader_findRoom 21 = .ok (.getfield 58, 3) := by decide +kernel
theorem zd_Loader_findRoom_24 : decode kb_Loader_findRoom 24 = .ok (.bipush (6), 2) := by decide +kernel
theorem zd_Loader_findRoom_26 : decode kb_Loader_findRoom 26 = .ok (.iconst (-1), 1) := by decide +kernel
theorem zd_Loader_findRoom_27 : decode kb_Loader_findRoom 27 = .ok (.invokevirtual 167, 3) := by decide +kernel
theorem zd_Loader_findRoom_30 : decode kb_Loader_findRoom 30 = .ok (.iconst (-1), 1) := by decide +kernel
theorem zd_Loader_findRoom_31 : decode kb_Loader_findRoom 31 = .ok (.ireturn, 1) := by decide +kernel
theorem zd_Loader_findRoom_32 : decode kb_Loader_findRoom 32 = .ok (.iconst 0, 1) := by decide +kernel
theorem zd_Loader_findRoom_33 : decode kb_Loader_findRoom 33 = .ok (.istore_n 2, 1) := by decide +kernel
theorem zd_Loader_findRoom_34 : decode kb_Loader_findRoom 34 = .ok (.iload_n 2, 1) := by decide +kernel
theorem zd_Loader_findRoom_35 : decode kb_Loader_findRoom 35 = .ok (.aload_n 0, 1) := by decide +kernel
theorem zd_Loader_findRoom_36 : decode kb_Loader_findRoom 36 = .ok (.getfield 37, 3) := by decide +kernel
theorem zd_Loader_findRoom_39 : decode kb_Loader_findRoom 39 = .ok (.getfield 261, 3) := by decide +kernel
theorem zd_Loader_findRoom_42 : decode kb_Loader_findRoom 42 = .ok (.if_icmp .ge (41), 3) := by decide +kernel
theorem zd_Loader_findRoom_45 : decode kb_Loader_findRoom 45 = .ok (.aload_n 0, 1) := by decide +kernel
theorem zd_Loader_findRoom_46 : decode kb_Loader_findRoom 46 = .ok (.getfield 37, 3) := by decide +kernel
theorem zd_Loader_findRoom_49 : decode kb_Loader_findRoom 49 = .ok (.iload_n 2, 1) := by decide +kernel
theorem zd_Loader_findRoom_50 : decode kb_Loader_findRoom 50 = .ok (.invokevirtual 264, 3) := by decide +kernel
theorem zd_Loader_findRoom_53 : decode kb_Loader_findRoom 53 = .ok (.aload_n 0, 1) := by decide +kernel
theorem zd_Loader_findRoom_54 : decode kb_Loader_findRoom 54 = .ok (.iload_n 2, 1) := by decide +kernel
theorem zd_Loader_findRoom_55 : decode kb_Loader_findRoom 55 = .ok (.iload_n 1, 1) := by decide +kernel
theorem zd_Loader_findRoom_56 : decode kb_Loader_findRoom 56 = .ok (.invokevirtual 267, 3) := by decide +kernel
theorem zd_Loader_findRoom_59 : decode kb_Loader_findRoom 59 = .ok (.invokestatic 271, 3) := by decide +kernel
theorem zd_Loader_findRoom_62 : decode kb_Loader_findRoom 62 = .ok (.ifCond .ne (15), 3) := by decide +kernel
theorem zd_Loader_findRoom_65 : decode kb_Loader_findRoom 65 = .ok (.aload_n 0, 1) := by decide +kernel
theorem zd_Loader_findRoom_66 : decode kb_Loader_findRoom 66 = .ok (.getfield 58, 3) := by decide +kernel
theorem zd_Loader_findRoom_69 : decode kb_Loader_findRoom 69 = .ok (.bipush (7), 2) := by decide +kernel
theorem zd_Loader_findRoom_71 : decode kb_Loader_findRoom 71 = .ok (.iload_n 2, 1) := by decide +kernel
theorem zd_Loader_findRoom_72 : decode kb_Loader_findRoom 72 = .ok (.invokevirtual 167, 3) := by decide +kernel
theorem zd_Loader_findRoom_75 : decode kb_Loader_findRoom 75 = .ok (.iconst (-1), 1) := by decide +kernel
theorem zd_Loader_findRoom_76 : decode kb_Loader_findRoom 76 = .ok (.ireturn, 1) := by decide +kernel
theorem zd_Loader_findRoom_77 : decode kb_Loader_findRoom 77 = .ok (.iinc 2 (1), 3) := by decide +kernel
theorem zd_Loader_findRoom_80 : decode kb_Loader_findRoom 80 = .ok (.goto (-46), 3) := by decide +kernel
theorem zd_Loader_findRoom_83 : decode kb_Loader_findRoom 83 = .ok (.iload_n 1, 1) := by decide +kernel
theorem zd_Loader_findRoom_84 : decode kb_Loader_findRoom 84 = .ok (.ireturn, 1) := by decide +kernel
def zf_Loader_findRoom_b34 : Nat → zz_S → Int32 → Int32 → Option (Int32 × zz_S)
  | 0, _, _, _ => none
  | n + 1, u, x1, x2 => if (u.1 8) ≤ x2 then (some (x1, u)) else (xx_b2 (zf_ModuleFile_placeKind u x2) fun v2 u1 => xx_b2 (zf_Loader_distanceOf u1 x2 x1) fun v4 u3 => xx_b2 (zf_Mender_reaches u3 v2 v4) fun v6 u5 => if v6 = 0 then ((zf_Report_blame u5 (7 : Int32) x2).bind fun u8 => some ((-1 : Int32), u8)) else (xx_nm (x2 + (1 : Int32)) fun v7 => (zf_Loader_findRoom_b34 n) u5 x1 v7))
def zf_Loader_findRoom (u : zz_S) : Option (Int32 × zz_S) := xx_b2 (zf_ModuleTable_firstFit u (u.1 5)) fun v2 u1 => if v2 = (-1 : Int32) then ((zf_Report_blame u1 (6 : Int32) (-1 : Int32)).bind fun u4 => some ((-1 : Int32), u4)) else (xx_nm (0 : Int32) fun v3 => zf_Loader_findRoom_b34 xx_fu u1 v2 v3)
set_option maxHeartbeats 4000000 in
set_option maxRecDepth 100000 in
theorem zw_Loader_findRoom_b34 {p : Program} {l : Launch} {e : Env} {s : State} {m : MethodId} {args : Array Value} {below : List Frame} {meth : Method} {c : Code} {A : Nat → Prop} {g : xx_G} {r : Int32} {u9 : zz_S} (C : xx_C p s m args meth c kb_Loader_findRoom 3 kr_Loader (some .int)) (hA : ∀ q, s.heap.size ≤ q → A q) (hK : va_K g.1 xx_cls (zz_T g) s) : ∀ (n : Nat), ∀ (u : zz_S) (x1 : Int32) (x2 : Int32) (H : Heap) (locs : List Loc) (ls : Array Slot), zf_Loader_findRoom_b34 n u x1 x2 = some (r, u9) → lv_has ls 3 [(0, .ref (g.2.1 0)), (1, .int x1), (2, .int x2)] → va_P g.1 xx_cls (zz_W g u) H → va_D A (zz_W g u) → va_S A s.heap H locs → W p l e (xx_rm 4 88) s m args below meth c H locs 0 0 (MQ below (xx_Q g.1 (zz_T g) (zz_W g) (some (.int r)) u9 A) args s 0 0 A) (F0 m 34 ls []) := by
  have hx := C.1
  have hb := C.2.1
  have hown := C.2.2.2.1
  have hts := C.2.2.2.2.1
  intro n
  induction n with
  | zero =>
    intro u x1 x2 H locs ls hF
    rw [zf_Loader_findRoom_b34] at hF
    cases hF
  | succ n ih =>
    intro u x1 x2 H locs ls hF hl hP hD hS
    rw [zf_Loader_findRoom_b34] at hF
    refine lv_iload_n hx hb zd_Loader_findRoom_34 rfl (lv_at hl 2 rfl) ?_
    refine lv_aload_n hx hb zd_Loader_findRoom_35 rfl (lv_at hl 0 rfl) ?_
    refine xx_get C ki_Loader hK hP 0 rfl rfl 3 (by decide) kw_190 rfl rfl zd_Loader_findRoom_36 ?_
    refine xx_get C ki_ModuleFile hK hP 8 rfl rfl 3 (by decide) kw_96 rfl rfl zd_Loader_findRoom_39 ?_
    refine lv_icmp_ge (tgt := 83) hx hb zd_Loader_findRoom_42 (by decide) (fun hc => ?_) (fun hc => ?_)
    · have hF := xx_ip hc hF
      refine lv_iload_n hx hb zd_Loader_findRoom_83 rfl (lv_at hl 1 rfl) ?_
      exact xx_iret C hF hK hP hD hS zd_Loader_findRoom_84
    · have hF := xx_in' hc hF
      refine lv_aload_n hx hb zd_Loader_findRoom_45 rfl (lv_at hl 0 rfl) ?_
      refine xx_get C ki_Loader hK hP 0 rfl rfl 3 (by decide) kw_190 rfl rfl zd_Loader_findRoom_46 ?_
      refine lv_iload_n hx hb zd_Loader_findRoom_49 rfl (lv_at hl 2 rfl) ?_
      obtain ⟨v2, u1, eu1, hF⟩ := xx_b2_some hF
      refine xx_callV (n := 1) (As := [.int x2]) (rest := []) C (zc_ModuleFile_placeKind l g u x2 v2 u1 eu1) ⟨kw_564, kw_610, kw_562, kw_563, kw_5⟩ ⟨by decide +kernel, by decide +kernel, by decide +kernel⟩ rfl ⟨Nat.le_of_ble_eq_true rfl, Nat.le_of_ble_eq_true rfl⟩ 8 rfl rfl hl.1 rfl (Nat.le_of_ble_eq_true rfl) hA hK hP hD hS ⟨Nat.le_refl _, Nat.le_refl _⟩ rfl rfl rfl zd_Loader_findRoom_50 (fun H locs hP hD hS => ?_)
      refine lv_aload_n hx hb zd_Loader_findRoom_53 rfl (lv_at hl 0 rfl) ?_
      refine lv_iload_n hx hb zd_Loader_findRoom_54 rfl (lv_at hl 2 rfl) ?_
      refine lv_iload_n hx hb zd_Loader_findRoom_55 rfl (lv_at hl 1 rfl) ?_
      obtain ⟨v4, u3, eu3, hF⟩ := xx_b2_some hF
      refine xx_callV (n := 2) (As := [.int x2, .int x1]) (rest := [.int v2]) C (zc_Loader_distanceOf l g u1 x2 x1 v4 u3 eu3) ⟨kw_614, kw_611, kw_613, ks_Loader_distanceOf, kw_1⟩ ⟨by decide +kernel, by decide +kernel, by decide +kernel⟩ rfl ⟨Nat.le_of_ble_eq_true rfl, Nat.le_of_ble_eq_true rfl⟩ 0 rfl rfl hl.1 rfl (Nat.le_of_ble_eq_true rfl) hA hK hP hD hS ⟨Nat.le_refl _, Nat.le_refl _⟩ rfl rfl rfl zd_Loader_findRoom_56 (fun H locs hP hD hS => ?_)
      obtain ⟨v6, u5, eu5, hF⟩ := xx_b2_some hF
      refine xx_callS (n := 2) (As := [.int v2, .int v4]) (rest := []) C (zc_Mender_reaches l g u3 v2 v4 v6 u5 eu5) ⟨kw_627, kw_625, kw_626, kw_17⟩ ⟨by decide +kernel, by decide +kernel, by decide +kernel⟩ rfl ⟨Nat.le_of_ble_eq_true rfl, Nat.le_of_ble_eq_true rfl⟩ hl.1 rfl (Nat.le_of_ble_eq_true rfl) hA hK hP hD hS ⟨Nat.le_refl _, Nat.le_refl _⟩ rfl rfl rfl zd_Loader_findRoom_59 (fun H locs hP hD hS => ?_)
      refine lv_if_ne (tgt := 77) hx hb zd_Loader_findRoom_62 (by decide) (fun hc => ?_) (fun hc => ?_)
      · have hF := xx_in' hc hF
        obtain ⟨v7, ev7, hF⟩ := xx_nm_some hF
        refine lv_iinc (k := 2) (v := v7) hx hb zd_Loader_findRoom_77 hl rfl (by rw [ev7, xx_lit1]) (by decide) rfl (fun ls hl => ?_)
        refine lv_goto (tgt := 34) hx hb zd_Loader_findRoom_80 (by decide) ?_
        exact ih u5 x1 v7 _ _ _ hF (lv_sub hl [1, 2, 0] rfl) hP hD hS
      · have hF := xx_ip hc hF
        refine lv_aload_n hx hb zd_Loader_findRoom_65 rfl (lv_at hl 0 rfl) ?_
        refine xx_get C ki_Loader hK hP 0 rfl rfl 6 (by decide) kw_193 rfl rfl zd_Loader_findRoom_66 ?_
        refine lv_bipush (v := (7 : Int32)) hx hb zd_Loader_findRoom_69 (by decide) ?_
        refine lv_iload_n hx hb zd_Loader_findRoom_71 rfl (lv_at hl 2 rfl) ?_
        obtain ⟨u8, eu8, hF⟩ := xx_ob hF
        refine xx_callV (n := 2) (As := [.int (7 : Int32), .int x2]) (rest := []) C (zc_Report_blame l g u5 (7 : Int32) x2 u8 eu8) ⟨kw_572, kw_569, kw_570, kw_571, kw_8⟩ ⟨by decide +kernel, by decide +kernel, by decide +kernel⟩ rfl ⟨Nat.le_of_ble_eq_true rfl, Nat.le_of_ble_eq_true rfl⟩ 13 rfl rfl hl.1 rfl (Nat.le_of_ble_eq_true rfl) hA hK hP hD hS ⟨Nat.le_refl _, Nat.le_refl _⟩ rfl rfl rfl zd_Loader_findRoom_72 (fun H locs hP hD hS => ?_)
        refine lv_iconst (v := (-1 : Int32)) hx hb zd_Loader_findRoom_75 (by decide) ?_
        exact xx_iret C hF hK hP hD hS zd_Loader_findRoom_76
set_option maxHeartbeats 4000000 in
set_option maxRecDepth 100000 in
theorem zc_Loader_findRoom (l : Launch) (g : xx_G) (u : zz_S) (r : Int32) (u9 : zz_S) (hF : zf_Loader_findRoom u = some (r, u9)) : xx_M l g.1 (zz_T g) (zz_W g) ky_Loader_findRoom kb_Loader_findRoom 3 (some .int) (xx_rm 4 88) [.ref (g.2.1 0)] u (some (.int r)) u9 := by
  refine xx_body (by decide) (Nat.le_of_ble_eq_true rfl) ?_
  intro p e s m args below meth c A ls C hin hK hl hA hP hD hS
  have hx := C.1
  have hb := C.2.1
  have hown := C.2.2.2.1
  have hts := C.2.2.2.2.1
  have hl : lv_has ls 3 [(0, .ref (g.2.1 0))] := hl
  unfold zf_Loader_findRoom at hF
  refine lv_aload_n hx hb zd_Loader_findRoom_0 rfl (lv_at hl 0 rfl) ?_
  refine xx_get C ki_Loader hK hP 0 rfl rfl 5 (by decide) kw_192 rfl rfl zd_Loader_findRoom_1 ?_
  refine lv_aload_n hx hb zd_Loader_findRoom_4 rfl (lv_at hl 0 rfl) ?_
  refine xx_get C ki_Loader hK hP 0 rfl rfl 3 (by decide) kw_190 rfl rfl zd_Loader_findRoom_5 ?_
  refine xx_get C ki_ModuleFile hK hP 8 rfl rfl 0 (by decide) kw_89 rfl rfl zd_Loader_findRoom_8 ?_
  obtain ⟨v2, u1, eu1, hF⟩ := xx_b2_some hF
  refine xx_callV (n := 1) (As := [.int (u.1 5)]) (rest := []) C (zc_ModuleTable_firstFit l g u (u.1 5) v2 u1 eu1) ⟨kw_606, kw_603, kw_604, kw_605, kw_7⟩ ⟨by decide +kernel, by decide +kernel, by decide +kernel⟩ rfl ⟨Nat.le_of_ble_eq_true rfl, Nat.le_of_ble_eq_true rfl⟩ 11 rfl rfl hl.1 rfl (Nat.le_of_ble_eq_true rfl) hA hK hP hD hS ⟨Nat.le_refl _, Nat.le_refl _⟩ rfl rfl rfl zd_Loader_findRoom_11 (fun H locs hP hD hS => ?_)
  refine lv_istore_n hx hb zd_Loader_findRoom_14 rfl hl (by decide) rfl (fun ls hl => ?_)
  refine lv_iload_n hx hb zd_Loader_findRoom_15 rfl (lv_at hl 0 rfl) ?_
  refine lv_iconst (v := (-1 : Int32)) hx hb zd_Loader_findRoom_16 (by decide) ?_
  refine lv_icmp_ne (tgt := 32) hx hb zd_Loader_findRoom_17 (by decide) (fun hc => ?_) (fun hc => ?_)
  · have hF := xx_in' hc hF
    refine lv_iconst (v := (0 : Int32)) hx hb zd_Loader_findRoom_32 (by decide) ?_
    obtain ⟨v3, ev3, hF⟩ := xx_nm_some hF
    refine xx_topi ev3 ?_
    refine lv_istore_n hx hb zd_Loader_findRoom_33 rfl hl (by decide) rfl (fun ls hl => ?_)
    exact zw_Loader_findRoom_b34 C hA hK xx_fu u1 v2 v3 _ _ _ hF (lv_sub hl [2, 1, 0] rfl) hP hD hS
  · have hF := xx_ip hc hF
    refine lv_aload_n hx hb zd_Loader_findRoom_20 rfl (lv_at hl 1 rfl) ?_
    refine xx_get C ki_Loader hK hP 0 rfl rfl 6 (by decide) kw_193 rfl rfl zd_Loader_findRoom_21 ?_
    refine lv_bipush (v := (6 : Int32)) hx hb zd_Loader_findRoom_24 (by decide) ?_
    refine lv_iconst (v := (-1 : Int32)) hx hb zd_Loader_findRoom_26 (by decide) ?_
    obtain ⟨u4, eu4, hF⟩ := xx_ob hF
    refine xx_callV (n := 2) (As := [.int (6 : Int32), .int (-1 : Int32)]) (rest := []) C (zc_Report_blame l g u1 (6 : Int32) (-1 : Int32) u4 eu4) ⟨kw_572, kw_569, kw_570, kw_571, kw_8⟩ ⟨by decide +kernel, by decide +kernel, by decide +kernel⟩ rfl ⟨Nat.le_of_ble_eq_true rfl, Nat.le_of_ble_eq_true rfl⟩ 13 rfl rfl hl.1 rfl (Nat.le_of_ble_eq_true rfl) hA hK hP hD hS ⟨Nat.le_refl _, Nat.le_refl _⟩ rfl rfl rfl zd_Loader_findRoom_27 (fun H locs hP hD hS => ?_)
    refine lv_iconst (v := (-1 : Int32)) hx hb zd_Loader_findRoom_30 (by decide) ?_
    exact xx_iret C hF hK hP hD hS zd_Loader_findRoom_31
theorem kw_641 : Cond.methodLink "ModuleLoader" 177 ky_Memory_wordAt ∈ xx_tb := xx_in (List.mem_append_right _ (List.mem_of_getElem? (i := 641) (by decide +kernel))) (by decide +kernel)
set_option maxRecDepth 100000 in
theorem kw_647 : Cond.code ky_Mender_mended kb_Mender_mended 3 (some .int) ∈ xx_tb := xx_in (List.mem_append_right _ (List.mem_of_getElem? (i := 647) (by rfl))) (by decide +kernel)
theorem kw_645 : Cond.methodLink "ModuleLoader" 312 ky_Mender_mended ∈ xx_tb := xx_in (List.mem_append_right _ (List.mem_of_getElem? (i := 645) (by decide +kernel))) (by decide +kernel)
theorem kw_646 : Cond.static ky_Mender_mended ∈ xx_tb := xx_in (List.mem_append_right _ (List.mem_of_getElem? (i := 646) (by decide +kernel))) (by decide +kernel)
set_option maxRecDepth 100000 in
theorem kw_425 : Cond.code ky_Memory_putWord kb_Memory_putWord 3 none ∈ xx_tb := xx_in (List.mem_append_right _ (List.mem_of_getElem? (i := 425) (by rfl))) (by decide +kernel)
theorem kw_422 : Cond.methodLink "ModuleLoader" 76 ky_Memory_putWord ∈ xx_tb := xx_in (List.mem_append_right _ (List.mem_of_getElem? (i := 422) (by decide +kernel))) (by decide +kernel)
theorem kw_423 : Cond.instanceMethod ky_Memory_putWord ∈ xx_tb := xx_in (List.mem_append_right _ (List.mem_of_getElem? (i := 423) (by decide +kernel))) (by decide +kernel)
theorem kw_424 : Cond.selects "ModuleLoader$Memory" ky_Memory_putWord ky_Memory_putWord ∈ xx_tb := xx_in (List.mem_append_right _ (List.mem_of_getElem? (i := 424) (by decide +kernel))) (by decide +kernel)
theorem kw_640 : Cond.methodLink "ModuleLoader" 309 ky_Mender_isDistance ∈ xx_tb := xx_in (List.mem_append_right _ (List.mem_of_getElem? (i := 640) (by decide +kernel))) (by decide +kernel)
set_option maxRecDepth 100000 in
theorem kw_639 : Cond.code ky_ModuleFile_imageWord kb_ModuleFile_imageWord 2 (some .int) ∈ xx_tb := xx_in (List.mem_append_right _ (List.mem_of_getElem? (i := 639) (by rfl))) (by decide +kernel)
theorem kw_636 : Cond.methodLink "ModuleLoader" 306 ky_ModuleFile_imageWord ∈ xx_tb := xx_in (List.mem_append_right _ (List.mem_of_getElem? (i := 636) (by decide +kernel))) (by decide +kernel)
theorem kw_637 : Cond.instanceMethod ky_ModuleFile_imageWord ∈ xx_tb := xx_in (List.mem_append_right _ (List.mem_of_getElem? (i := 637) (by decide +kernel))) (by decide +kernel)
theorem kw_638 : Cond.selects "ModuleLoader$ModuleFile" ky_ModuleFile_imageWord ky_ModuleFile_imageWord ∈ xx_tb := xx_in (List.mem_append_right _ (List.mem_of_getElem? (i := 638) (by decide +kernel))) (by decide +kernel)
theorem zd_Loader_writeImage_0 : decode kb_Loader_writeImage 0 = .ok (.iconst 0, 1) := by decide +kernel
theorem zd_Loader_writeImage_1 : decode kb_Loader_writeImage 1 = .ok (.istore_n 2, 1) := by decide +kernel
theorem zd_Loader_writeImage_2 : decode kb_Loader_writeImage 2 = .ok (.iload_n 2, 1) := by decide +kernel
theorem zd_Loader_writeImage_3 : decode kb_Loader_writeImage 3 = .ok (.aload_n 0, 1) := by decide +kernel
theorem zd_Loader_writeImage_4 : decode kb_Loader_writeImage 4 = .ok (.getfield 37, 3) := by decide +kernel
theorem zd_Loader_writeImage_7 : decode kb_Loader_writeImage 7 = .ok (.getfield 257, 3) := by decide +kernel
theorem zd_Loader_writeImage_10 : decode kb_Loader_writeImage 10 = .ok (.if_icmp .ge (27), 3) := by decide +kernel
theorem zd_Loader_writeImage_13 : decode kb_Loader_writeImage 13 = .ok (.aload_n 0, 1) := by decide +kernel
theorem zd_Loader_writeImage_14 : decode kb_Loader_writeImage 14 = .ok (.getfield 10, 3) := by decide +kernel
theorem zd_Loader_writeImage_17 : decode kb_Loader_writeImage 17 = .ok (.iload_n 1, 1) := by decide +kernel
theorem zd_Loader_writeImage_18 : decode kb_Loader_writeImage 18 = .ok (.iload_n 2, 1) := by decide +kernel
theorem zd_Loader_writeImage_19 : decode kb_Loader_writeImage 19 = .ok (.iadd, 1) := by decide +kernel
theorem zd_Loader_writeImage_20 : decode kb_Loader_writeImage 20 = .ok (.aload_n 0, 1) := by decide +kernel
theorem zd_Loader_writeImage_21 : decode kb_Loader_writeImage 21 = .ok (.getfield 37, 3) := by decide +kernel
theorem zd_Loader_writeImage_24 : decode kb_Loader_writeImage 24 = .ok (.iload_n 2, 1) := by decide +kernel
theorem zd_Loader_writeImage_25 : decode kb_Loader_writeImage 25 = .ok (.invokevirtual 306, 3) := by decide +kernel
theorem zd_Loader_writeImage_28 : decode kb_Loader_writeImage 28 = .ok (.invokevirtual 76, 3) := by decide +kernel
theorem zd_Loader_writeImage_31 : decode kb_Loader_writeImage 31 = .ok (.iinc 2 (4), 3) := by decide +kernel
theorem zd_Loader_writeImage_34 : decode kb_Loader_writeImage 34 = .ok (.goto (-32), 3) := by decide +kernel
theorem zd_Loader_writeImage_37 : decode kb_Loader_writeImage 37 = .ok (.iconst 0, 1) := by decide +kernel
theorem zd_Loader_writeImage_38 : decode kb_Loader_writeImage 38 = .ok (.istore_n 2, 1) := by decide +kernel
theorem zd_Loader_writeImage_39 : decode kb_Loader_writeImage 39 = .ok (.iload_n 2, 1) := by decide +kernel
theorem zd_Loader_writeImage_40 : decode kb_Loader_writeImage 40 = .ok (.aload_n 0, 1) := by decide +kernel
theorem zd_Loader_writeImage_41 : decode kb_Loader_writeImage 41 = .ok (.getfield 37, 3) := by decide +kernel
theorem zd_Loader_writeImage_44 : decode kb_Loader_writeImage 44 = .ok (.getfield 261, 3) := by decide +kernel
theorem zd_Loader_writeImage_47 : decode kb_Loader_writeImage 47 = .ok (.if_icmp .ge (80), 3) := by decide +kernel
theorem zd_Loader_writeImage_50 : decode kb_Loader_writeImage 50 = .ok (.iload_n 1, 1) := by decide +kernel
theorem zd_Loader_writeImage_51 : decode kb_Loader_writeImage 51 = .ok (.aload_n 0, 1) := by decide +kernel
theorem zd_Loader_writeImage_52 : decode kb_Loader_writeImage 52 = .ok (.getfield 37, 3) := by decide +kernel
theorem zd_Loader_writeImage_55 : decode kb_Loader_writeImage 55 = .ok (.iload_n 2, 1) := by decide +kernel
theorem zd_Loader_writeImage_56 : decode kb_Loader_writeImage 56 = .ok (.invokevirtual 285, 3) := by decide +kernel
theorem zd_Loader_writeImage_59 : decode kb_Loader_writeImage 59 = .ok (.iadd, 1) := by decide +kernel
theorem zd_Loader_writeImage_60 : decode kb_Loader_writeImage 60 = .ok (.istore_n 3, 1) := by decide +kernel
theorem zd_Loader_writeImage_61 : decode kb_Loader_writeImage 61 = .ok (.aload_n 0, 1) := by decide +kernel
theorem zd_Loader_writeImage_62 : decode kb_Loader_writeImage 62 = .ok (.getfield 37, 3) := by decide +kernel
theorem zd_Loader_writeImage_65 : decode kb_Loader_writeImage 65 = .ok (.iload_n 2, 1) := by decide +kernel
theorem zd_Loader_writeImage_66 : decode kb_Loader_writeImage 66 = .ok (.invokevirtual 264, 3) := by decide +kernel
theorem zd_Loader_writeImage_69 : decode kb_Loader_writeImage 69 = .ok (.invokestatic 309, 3) := by decide +kernel
theorem zd_Loader_writeImage_72 : decode kb_Loader_writeImage 72 = .ok (.ifCond .eq (12), 3) := by decide +kernel
theorem zd_Loader_writeImage_75 : decode kb_Loader_writeImage 75 = .ok (.aload_n 0, 1) := by decide +kernel
theorem zd_Loader_writeImage_76 : decode kb_Loader_writeImage 76 = .ok (.iload_n 2, 1) := by decide +kernel
theorem zd_Loader_writeImage_77 : decode kb_Loader_writeImage 77 = .ok (.iload_n 1, 1) := by decide +kernel
theorem zd_Loader_writeImage_78 : decode kb_Loader_writeImage 78 = .ok (.invokevirtual 267, 3) := by decide +kernel
theorem zd_Loader_writeImage_81 : decode kb_Loader_writeImage 81 = .ok (.goto (9), 3) := by decide +kernel
theorem zd_Loader_writeImage_84 : decode kb_Loader_writeImage 84 = .ok (.aload_n 0, 1) := by decide +kernel
theorem zd_Loader_writeImage_85 : decode kb_Loader_writeImage 85 = .ok (.iload_n 2, 1) := by decide +kernel
theorem zd_Loader_writeImage_86 : decode kb_Loader_writeImage 86 = .ok (.iload_n 1, 1) := by decide +kernel
theorem zd_Loader_writeImage_87 : decode kb_Loader_writeImage 87 = .ok (.invokevirtual 282, 3) := by decide +kernel
theorem zd_Loader_writeImage_90 : decode kb_Loader_writeImage 90 = .ok (.istore 4, 2) := by decide +kernel
theorem zd_Loader_writeImage_92 : decode kb_Loader_writeImage 92 = .ok (.aload_n 0, 1) := by decide +kernel
theorem zd_Loader_writeImage_93 : decode kb_Loader_writeImage 93 = .ok (.getfield 10, 3) := by decide +kernel
theorem zd_Loader_writeImage_96 : decode kb_Loader_writeImage 96 = .ok (.iload_n 3, 1) := by decide +kernel
theorem zd_Loader_writeImage_97 : decode kb_Loader_writeImage 97 = .ok (.aload_n 0, 1) := by decide +kernel
theorem zd_Loader_writeImage_98 : decode kb_Loader_writeImage 98 = .ok (.getfield 37, 3) := by decide +kernel
theorem zd_Loader_writeImage_101 : decode kb_Loader_writeImage 101 = .ok (.iload_n 2, 1) := by decide +kernel
theorem zd_Loader_writeImage_102 : decode kb_Loader_writeImage 102 = .ok (.invokevirtual 264, 3) := by decide +kernel
theorem zd_Loader_writeImage_105 : decode kb_Loader_writeImage 105 = .ok (.aload_n 0, 1) := by decide +kernel
theorem zd_Loader_writeImage_106 : decode kb_Loader_writeImage 106 = .ok (.getfield 10, 3) := by decide +kernel
theorem zd_Loader_writeImage_109 : decode kb_Loader_writeImage 109 = .ok (.iload_n 3, 1) := by decide +kernel
theorem zd_Loader_writeImage_110 : decode kb_Loader_writeImage 110 = .ok (.invokevirtual 177, 3) := by decide +kernel
theorem zd_Loader_writeImage_113 : decode kb_Loader_writeImage 113 = .ok (.iload 4, 2) := by decide +kernel
theorem zd_Loader_writeImage_115 : decode kb_Loader_writeImage 115 = .ok (.invokestatic 312, 3) := by decide +kernel
theorem zd_Loader_writeImage_118 : decode kb_Loader_writeImage 118 = .ok (.invokevirtual 76, 3) := by decide +kernel
theorem zd_Loader_writeImage_121 : decode kb_Loader_writeImage 121 = .ok (.iinc 2 (1), 3) := by decide +kernel
theorem zd_Loader_writeImage_124 : decode kb_Loader_writeImage 124 = .ok (.goto (-85), 3) := by decide +kernel
theorem zd_Loader_writeImage_127 : decode kb_Loader_writeImage 127 = .ok (.return_, 1) := by decide +kernel
def zf_Loader_writeImage_b90 (rec39 : zz_S → Int32 → Int32 → Option (zz_S)) (u : zz_S) (x1 : Int32) (x2 : Int32) (x3 : Int32) (y0 : Int32) : Option (zz_S) := xx_b2 (zf_ModuleFile_placeKind u x2) fun v2 u1 => xx_b2 (zf_Memory_wordAt u1 x3) fun v4 u3 => xx_b2 (zf_Mender_mended u3 v2 v4 y0) fun v6 u5 => (zf_Memory_putWord u5 x3 v6).bind fun u7 => xx_nm (x2 + (1 : Int32)) fun v8 => rec39 u7 x1 v8
def zf_Loader_writeImage_b39 : Nat → zz_S → Int32 → Int32 → Option (zz_S)
  | 0, _, _, _ => none
  | n + 1, u, x1, x2 => if (u.1 8) ≤ x2 then (some u) else (xx_b2 (zf_ModuleFile_placeOffset u x2) fun v2 u1 => xx_nm (x1 + v2) fun v3 => xx_b2 (zf_ModuleFile_placeKind u1 x2) fun v5 u4 => xx_b2 (zf_Mender_isDistance u4 v5) fun v7 u6 => if v7 = 0 then (xx_b2 (zf_Loader_valueOf u6 x2 x1) fun v9 u8 => zf_Loader_writeImage_b90 (zf_Loader_writeImage_b39 n) u8 x1 x2 v3 v9) else (xx_b2 (zf_Loader_distanceOf u6 x2 x1) fun v11 u10 => zf_Loader_writeImage_b90 (zf_Loader_writeImage_b39 n) u10 x1 x2 v3 v11))
def zf_Loader_writeImage_b2 : Nat → zz_S → Int32 → Int32 → Option (zz_S)
  | 0, _, _, _ => none
  | n + 1, u, x1, x2 => if (u.1 5) ≤ x2 then (xx_nm (0 : Int32) fun v1 => zf_Loader_writeImage_b39 xx_fu u x1 v1) else (xx_b2 (zf_ModuleFile_imageWord u x2) fun v3 u2 => (zf_Memory_putWord u2 (x1 + x2) v3).bind fun u4 => xx_nm (x2 + (4 : Int32)) fun v5 => (zf_Loader_writeImage_b2 n) u4 x1 v5)
def zf_Loader_writeImage (u : zz_S) (x1 : Int32) : Option (zz_S) := xx_nm (0 : Int32) fun v1 => zf_Loader_writeImage_b2 xx_fu u x1 v1
set_option maxHeartbeats 4000000 in
set_option maxRecDepth 100000 in
theorem zw_Loader_writeImage_b90 {p : Program} {l : Launch} {e : Env} {s : State} {m : MethodId} {args : Array Value} {below : List Frame} {meth : Method} {c : Code} {A : Nat → Prop} {g : xx_G} {u9 : zz_S} (C : xx_C p s m args meth c kb_Loader_writeImage 5 kr_Loader none) (hA : ∀ q, s.heap.size ≤ q → A q) (hK : va_K g.1 xx_cls (zz_T g) s) {rec39 : zz_S → Int32 → Int32 → Option (zz_S)} (hrec39 : ∀ (u : zz_S) (x1 : Int32) (x2 : Int32) (H : Heap) (locs : List Loc) (ls : Array Slot), rec39 u x1 x2 = some u9 → lv_has ls 5 [(0, .ref (g.2.1 0)), (1, .int x1), (2, .int x2)] → va_P g.1 xx_cls (zz_W g u) H → va_D A (zz_W g u) → va_S A s.heap H locs → W p l e (xx_rm 4 88) s m args below meth c H locs 0 0 (MQ below (xx_Q g.1 (zz_T g) (zz_W g) none u9 A) args s 0 0 A) (F0 m 39 ls [])) : ∀ (u : zz_S) (x1 : Int32) (x2 : Int32) (x3 : Int32) (y0 : Int32) (H : Heap) (locs : List Loc) (ls : Array Slot), zf_Loader_writeImage_b90 rec39 u x1 x2 x3 y0 = some u9 → lv_has ls 5 [(0, .ref (g.2.1 0)), (1, .int x1), (2, .int x2), (3, .int x3)] → va_P g.1 xx_cls (zz_W g u) H → va_D A (zz_W g u) → va_S A s.heap H locs → W p l e (xx_rm 4 88) s m args below meth c H locs 0 0 (MQ below (xx_Q g.1 (zz_T g) (zz_W g) none u9 A) args s 0 0 A) (F0 m 90 ls [.int y0]) := by
  have hx := C.1
  have hb := C.2.1
  have hown := C.2.2.2.1
  have hts := C.2.2.2.2.1
  intro u x1 x2 x3 y0 H locs ls hF hl hP hD hS
  unfold zf_Loader_writeImage_b90 at hF
  refine lv_istore hx hb zd_Loader_writeImage_90 hl (by decide) rfl (fun ls hl => ?_)
  refine lv_aload_n hx hb zd_Loader_writeImage_92 rfl (lv_at hl 1 rfl) ?_
  refine xx_get C ki_Loader hK hP 0 rfl rfl 0 (by decide) kw_187 rfl rfl zd_Loader_writeImage_93 ?_
  refine lv_iload_n hx hb zd_Loader_writeImage_96 rfl (lv_at hl 4 rfl) ?_
  refine lv_aload_n hx hb zd_Loader_writeImage_97 rfl (lv_at hl 1 rfl) ?_
  refine xx_get C ki_Loader hK hP 0 rfl rfl 3 (by decide) kw_190 rfl rfl zd_Loader_writeImage_98 ?_
  refine lv_iload_n hx hb zd_Loader_writeImage_101 rfl (lv_at hl 3 rfl) ?_
  obtain ⟨v2, u1, eu1, hF⟩ := xx_b2_some hF
  refine xx_callV (n := 1) (As := [.int x2]) (rest := [.int x3, .ref (g.2.1 1)]) C (zc_ModuleFile_placeKind l g u x2 v2 u1 eu1) ⟨kw_564, kw_610, kw_562, kw_563, kw_5⟩ ⟨by decide +kernel, by decide +kernel, by decide +kernel⟩ rfl ⟨Nat.le_of_ble_eq_true rfl, Nat.le_of_ble_eq_true rfl⟩ 8 rfl rfl hl.1 rfl (Nat.le_of_ble_eq_true rfl) hA hK hP hD hS ⟨Nat.le_refl _, Nat.le_refl _⟩ rfl rfl rfl zd_Loader_writeImage_102 (fun H locs hP hD hS => ?_)
  refine lv_aload_n hx hb zd_Loader_writeImage_105 rfl (lv_at hl 1 rfl) ?_
  refine xx_get C ki_Loader hK hP 0 rfl rfl 0 (by decide) kw_187 rfl rfl zd_Loader_writeImage_106 ?_
  refine lv_iload_n hx hb zd_Loader_writeImage_109 rfl (lv_at hl 4 rfl) ?_
  obtain ⟨v4, u3, eu3, hF⟩ := xx_b2_some hF
  refine xx_callV (n := 1) (As := [.int x3]) (rest := [.int v2, .int x3, .ref (g.2.1 1)]) C (zc_Memory_wordAt l g u1 x3 v4 u3 eu3) ⟨kw_644, kw_641, kw_642, kw_643, kw_2⟩ ⟨by decide +kernel, by decide +kernel, by decide +kernel⟩ rfl ⟨Nat.le_of_ble_eq_true rfl, Nat.le_of_ble_eq_true rfl⟩ 1 rfl rfl hl.1 rfl (Nat.le_of_ble_eq_true rfl) hA hK hP hD hS ⟨Nat.le_refl _, Nat.le_refl _⟩ rfl rfl rfl zd_Loader_writeImage_110 (fun H locs hP hD hS => ?_)
  refine lv_iload hx hb zd_Loader_writeImage_113 (lv_at hl 0 rfl) ?_
  obtain ⟨v6, u5, eu5, hF⟩ := xx_b2_some hF
  refine xx_callS (n := 3) (As := [.int v2, .int v4, .int y0]) (rest := [.int x3, .ref (g.2.1 1)]) C (zc_Mender_mended l g u3 v2 v4 y0 v6 u5 eu5) ⟨kw_647, kw_645, kw_646, kw_17⟩ ⟨by decide +kernel, by decide +kernel, by decide +kernel⟩ rfl ⟨Nat.le_of_ble_eq_true rfl, Nat.le_of_ble_eq_true rfl⟩ hl.1 rfl (Nat.le_of_ble_eq_true rfl) hA hK hP hD hS ⟨Nat.le_refl _, Nat.le_refl _⟩ rfl rfl rfl zd_Loader_writeImage_115 (fun H locs hP hD hS => ?_)
  obtain ⟨u7, eu7, hF⟩ := xx_ob hF
  refine xx_callV (n := 2) (As := [.int x3, .int v6]) (rest := []) C (zc_Memory_putWord l g u5 x3 v6 u7 eu7) ⟨kw_425, kw_422, kw_423, kw_424, kw_2⟩ ⟨by decide +kernel, by decide +kernel, by decide +kernel⟩ rfl ⟨Nat.le_of_ble_eq_true rfl, Nat.le_of_ble_eq_true rfl⟩ 1 rfl rfl hl.1 rfl (Nat.le_of_ble_eq_true rfl) hA hK hP hD hS ⟨Nat.le_refl _, Nat.le_refl _⟩ rfl rfl rfl zd_Loader_writeImage_118 (fun H locs hP hD hS => ?_)
  obtain ⟨v8, ev8, hF⟩ := xx_nm_some hF
  refine lv_iinc (k := 3) (v := v8) hx hb zd_Loader_writeImage_121 hl rfl (by rw [ev8, xx_lit1]) (by decide) rfl (fun ls hl => ?_)
  refine lv_goto (tgt := 39) hx hb zd_Loader_writeImage_124 (by decide) ?_
  exact hrec39 u7 x1 v8 _ _ _ hF (lv_sub hl [2, 3, 0] rfl) hP hD hS
set_option maxHeartbeats 4000000 in
set_option maxRecDepth 100000 in
theorem zw_Loader_writeImage_b39 {p : Program} {l : Launch} {e : Env} {s : State} {m : MethodId} {args : Array Value} {below : List Frame} {meth : Method} {c : Code} {A : Nat → Prop} {g : xx_G} {u9 : zz_S} (C : xx_C p s m args meth c kb_Loader_writeImage 5 kr_Loader none) (hA : ∀ q, s.heap.size ≤ q → A q) (hK : va_K g.1 xx_cls (zz_T g) s) : ∀ (n : Nat), ∀ (u : zz_S) (x1 : Int32) (x2 : Int32) (H : Heap) (locs : List Loc) (ls : Array Slot), zf_Loader_writeImage_b39 n u x1 x2 = some u9 → lv_has ls 5 [(0, .ref (g.2.1 0)), (1, .int x1), (2, .int x2)] → va_P g.1 xx_cls (zz_W g u) H → va_D A (zz_W g u) → va_S A s.heap H locs → W p l e (xx_rm 4 88) s m args below meth c H locs 0 0 (MQ below (xx_Q g.1 (zz_T g) (zz_W g) none u9 A) args s 0 0 A) (F0 m 39 ls []) := by
  have hx := C.1
  have hb := C.2.1
  have hown := C.2.2.2.1
  have hts := C.2.2.2.2.1
  intro n
  induction n with
  | zero =>
    intro u x1 x2 H locs ls hF
    rw [zf_Loader_writeImage_b39] at hF
    cases hF
  | succ n ih =>
    intro u x1 x2 H locs ls hF hl hP hD hS
    rw [zf_Loader_writeImage_b39] at hF
    refine lv_iload_n hx hb zd_Loader_writeImage_39 rfl (lv_at hl 2 rfl) ?_
    refine lv_aload_n hx hb zd_Loader_writeImage_40 rfl (lv_at hl 0 rfl) ?_
    refine xx_get C ki_Loader hK hP 0 rfl rfl 3 (by decide) kw_190 rfl rfl zd_Loader_writeImage_41 ?_
    refine xx_get C ki_ModuleFile hK hP 8 rfl rfl 3 (by decide) kw_96 rfl rfl zd_Loader_writeImage_44 ?_
    refine lv_icmp_ge (tgt := 127) hx hb zd_Loader_writeImage_47 (by decide) (fun hc => ?_) (fun hc => ?_)
    · have hF := xx_ip hc hF
      exact xx_vret C hF hK hP hD hS zd_Loader_writeImage_127
    · have hF := xx_in' hc hF
      refine lv_iload_n hx hb zd_Loader_writeImage_50 rfl (lv_at hl 1 rfl) ?_
      refine lv_aload_n hx hb zd_Loader_writeImage_51 rfl (lv_at hl 0 rfl) ?_
      refine xx_get C ki_Loader hK hP 0 rfl rfl 3 (by decide) kw_190 rfl rfl zd_Loader_writeImage_52 ?_
      refine lv_iload_n hx hb zd_Loader_writeImage_55 rfl (lv_at hl 2 rfl) ?_
      obtain ⟨v2, u1, eu1, hF⟩ := xx_b2_some hF
      refine xx_callV (n := 1) (As := [.int x2]) (rest := [.int x1]) C (zc_ModuleFile_placeOffset l g u x2 v2 u1 eu1) ⟨kw_568, kw_624, kw_566, kw_567, kw_5⟩ ⟨by decide +kernel, by decide +kernel, by decide +kernel⟩ rfl ⟨Nat.le_of_ble_eq_true rfl, Nat.le_of_ble_eq_true rfl⟩ 8 rfl rfl hl.1 rfl (Nat.le_of_ble_eq_true rfl) hA hK hP hD hS ⟨Nat.le_refl _, Nat.le_refl _⟩ rfl rfl rfl zd_Loader_writeImage_56 (fun H locs hP hD hS => ?_)
      refine lv_iadd hx hb zd_Loader_writeImage_59 ?_
      obtain ⟨v3, ev3, hF⟩ := xx_nm_some hF
      refine xx_topi ev3 ?_
      refine lv_istore_n hx hb zd_Loader_writeImage_60 rfl hl (by decide) rfl (fun ls hl => ?_)
      refine lv_aload_n hx hb zd_Loader_writeImage_61 rfl (lv_at hl 1 rfl) ?_
      refine xx_get C ki_Loader hK hP 0 rfl rfl 3 (by decide) kw_190 rfl rfl zd_Loader_writeImage_62 ?_
      refine lv_iload_n hx hb zd_Loader_writeImage_65 rfl (lv_at hl 3 rfl) ?_
      obtain ⟨v5, u4, eu4, hF⟩ := xx_b2_some hF
      refine xx_callV (n := 1) (As := [.int x2]) (rest := []) C (zc_ModuleFile_placeKind l g u1 x2 v5 u4 eu4) ⟨kw_564, kw_610, kw_562, kw_563, kw_5⟩ ⟨by decide +kernel, by decide +kernel, by decide +kernel⟩ rfl ⟨Nat.le_of_ble_eq_true rfl, Nat.le_of_ble_eq_true rfl⟩ 8 rfl rfl hl.1 rfl (Nat.le_of_ble_eq_true rfl) hA hK hP hD hS ⟨Nat.le_refl _, Nat.le_refl _⟩ rfl rfl rfl zd_Loader_writeImage_66 (fun H locs hP hD hS => ?_)
      obtain ⟨v7, u6, eu6, hF⟩ := xx_b2_some hF
      refine xx_callS (n := 1) (As := [.int v5]) (rest := []) C (zc_Mender_isDistance l g u4 v5 v7 u6 eu6) ⟨kw_630, kw_640, kw_629, kw_17⟩ ⟨by decide +kernel, by decide +kernel, by decide +kernel⟩ rfl ⟨Nat.le_of_ble_eq_true rfl, Nat.le_of_ble_eq_true rfl⟩ hl.1 rfl (Nat.le_of_ble_eq_true rfl) hA hK hP hD hS ⟨Nat.le_refl _, Nat.le_refl _⟩ rfl rfl rfl zd_Loader_writeImage_69 (fun H locs hP hD hS => ?_)
      refine lv_if_eq (tgt := 84) hx hb zd_Loader_writeImage_72 (by decide) (fun hc => ?_) (fun hc => ?_)
      · have hF := xx_ip hc hF
        refine lv_aload_n hx hb zd_Loader_writeImage_84 rfl (lv_at hl 1 rfl) ?_
        refine lv_iload_n hx hb zd_Loader_writeImage_85 rfl (lv_at hl 3 rfl) ?_
        refine lv_iload_n hx hb zd_Loader_writeImage_86 rfl (lv_at hl 2 rfl) ?_
        obtain ⟨v9, u8, eu8, hF⟩ := xx_b2_some hF
        refine xx_callV (n := 2) (As := [.int x2, .int x1]) (rest := []) C (zc_Loader_valueOf l g u6 x2 x1 v9 u8 eu8) ⟨kw_618, kw_615, kw_617, ks_Loader_valueOf, kw_1⟩ ⟨by decide +kernel, by decide +kernel, by decide +kernel⟩ rfl ⟨Nat.le_of_ble_eq_true rfl, Nat.le_of_ble_eq_true rfl⟩ 0 rfl rfl hl.1 rfl (Nat.le_of_ble_eq_true rfl) hA hK hP hD hS ⟨Nat.le_refl _, Nat.le_refl _⟩ rfl rfl rfl zd_Loader_writeImage_87 (fun H locs hP hD hS => ?_)
        exact zw_Loader_writeImage_b90 C hA hK ih  u8 x1 x2 v3 v9 _ _ _ hF (lv_sub hl [1, 2, 3, 0] rfl) hP hD hS
      · have hF := xx_in' hc hF
        refine lv_aload_n hx hb zd_Loader_writeImage_75 rfl (lv_at hl 1 rfl) ?_
        refine lv_iload_n hx hb zd_Loader_writeImage_76 rfl (lv_at hl 3 rfl) ?_
        refine lv_iload_n hx hb zd_Loader_writeImage_77 rfl (lv_at hl 2 rfl) ?_
        obtain ⟨v11, u10, eu10, hF⟩ := xx_b2_some hF
        refine xx_callV (n := 2) (As := [.int x2, .int x1]) (rest := []) C (zc_Loader_distanceOf l g u6 x2 x1 v11 u10 eu10) ⟨kw_614, kw_611, kw_613, ks_Loader_distanceOf, kw_1⟩ ⟨by decide +kernel, by decide +kernel, by decide +kernel⟩ rfl ⟨Nat.le_of_ble_eq_true rfl, Nat.le_of_ble_eq_true rfl⟩ 0 rfl rfl hl.1 rfl (Nat.le_of_ble_eq_true rfl) hA hK hP hD hS ⟨Nat.le_refl _, Nat.le_refl _⟩ rfl rfl rfl zd_Loader_writeImage_78 (fun H locs hP hD hS => ?_)
        refine lv_goto (tgt := 90) hx hb zd_Loader_writeImage_81 (by decide) ?_
        exact zw_Loader_writeImage_b90 C hA hK ih  u10 x1 x2 v3 v11 _ _ _ hF (lv_sub hl [1, 2, 3, 0] rfl) hP hD hS
set_option maxHeartbeats 4000000 in
set_option maxRecDepth 100000 in
theorem zw_Loader_writeImage_b2 {p : Program} {l : Launch} {e : Env} {s : State} {m : MethodId} {args : Array Value} {below : List Frame} {meth : Method} {c : Code} {A : Nat → Prop} {g : xx_G} {u9 : zz_S} (C : xx_C p s m args meth c kb_Loader_writeImage 5 kr_Loader none) (hA : ∀ q, s.heap.size ≤ q → A q) (hK : va_K g.1 xx_cls (zz_T g) s) : ∀ (n : Nat), ∀ (u : zz_S) (x1 : Int32) (x2 : Int32) (H : Heap) (locs : List Loc) (ls : Array Slot), zf_Loader_writeImage_b2 n u x1 x2 = some u9 → lv_has ls 5 [(0, .ref (g.2.1 0)), (1, .int x1), (2, .int x2)] → va_P g.1 xx_cls (zz_W g u) H → va_D A (zz_W g u) → va_S A s.heap H locs → W p l e (xx_rm 4 88) s m args below meth c H locs 0 0 (MQ below (xx_Q g.1 (zz_T g) (zz_W g) none u9 A) args s 0 0 A) (F0 m 2 ls []) := by
  have hx := C.1
  have hb := C.2.1
  have hown := C.2.2.2.1
  have hts := C.2.2.2.2.1
  intro n
  induction n with
  | zero =>
    intro u x1 x2 H locs ls hF
    rw [zf_Loader_writeImage_b2] at hF
    cases hF
  | succ n ih =>
    intro u x1 x2 H locs ls hF hl hP hD hS
    rw [zf_Loader_writeImage_b2] at hF
    refine lv_iload_n hx hb zd_Loader_writeImage_2 rfl (lv_at hl 2 rfl) ?_
    refine lv_aload_n hx hb zd_Loader_writeImage_3 rfl (lv_at hl 0 rfl) ?_
    refine xx_get C ki_Loader hK hP 0 rfl rfl 3 (by decide) kw_190 rfl rfl zd_Loader_writeImage_4 ?_
    refine xx_get C ki_ModuleFile hK hP 8 rfl rfl 0 (by decide) kw_89 rfl rfl zd_Loader_writeImage_7 ?_
    refine lv_icmp_ge (tgt := 37) hx hb zd_Loader_writeImage_10 (by decide) (fun hc => ?_) (fun hc => ?_)
    · have hF := xx_ip hc hF
      refine lv_iconst (v := (0 : Int32)) hx hb zd_Loader_writeImage_37 (by decide) ?_
      obtain ⟨v1, ev1, hF⟩ := xx_nm_some hF
      refine xx_topi ev1 ?_
      refine lv_istore_n hx hb zd_Loader_writeImage_38 rfl hl (by decide) rfl (fun ls hl => ?_)
      exact zw_Loader_writeImage_b39 C hA hK xx_fu u x1 v1 _ _ _ hF (lv_sub hl [1, 2, 0] rfl) hP hD hS
    · have hF := xx_in' hc hF
      refine lv_aload_n hx hb zd_Loader_writeImage_13 rfl (lv_at hl 0 rfl) ?_
      refine xx_get C ki_Loader hK hP 0 rfl rfl 0 (by decide) kw_187 rfl rfl zd_Loader_writeImage_14 ?_
      refine lv_iload_n hx hb zd_Loader_writeImage_17 rfl (lv_at hl 1 rfl) ?_
      refine lv_iload_n hx hb zd_Loader_writeImage_18 rfl (lv_at hl 2 rfl) ?_
      refine lv_iadd hx hb zd_Loader_writeImage_19 ?_
      refine lv_aload_n hx hb zd_Loader_writeImage_20 rfl (lv_at hl 0 rfl) ?_
      refine xx_get C ki_Loader hK hP 0 rfl rfl 3 (by decide) kw_190 rfl rfl zd_Loader_writeImage_21 ?_
      refine lv_iload_n hx hb zd_Loader_writeImage_24 rfl (lv_at hl 2 rfl) ?_
      obtain ⟨v3, u2, eu2, hF⟩ := xx_b2_some hF
      refine xx_callV (n := 1) (As := [.int x2]) (rest := [.int (x1 + x2), .ref (g.2.1 1)]) C (zc_ModuleFile_imageWord l g u x2 v3 u2 eu2) ⟨kw_639, kw_636, kw_637, kw_638, kw_5⟩ ⟨by decide +kernel, by decide +kernel, by decide +kernel⟩ rfl ⟨Nat.le_of_ble_eq_true rfl, Nat.le_of_ble_eq_true rfl⟩ 8 rfl rfl hl.1 rfl (Nat.le_of_ble_eq_true rfl) hA hK hP hD hS ⟨Nat.le_refl _, Nat.le_refl _⟩ rfl rfl rfl zd_Loader_writeImage_25 (fun H locs hP hD hS => ?_)
      obtain ⟨u4, eu4, hF⟩ := xx_ob hF
      refine xx_callV (n := 2) (As := [.int (x1 + x2), .int v3]) (rest := []) C (zc_Memory_putWord l g u2 (x1 + x2) v3 u4 eu4) ⟨kw_425, kw_422, kw_423, kw_424, kw_2⟩ ⟨by decide +kernel, by decide +kernel, by decide +kernel⟩ rfl ⟨Nat.le_of_ble_eq_true rfl, Nat.le_of_ble_eq_true rfl⟩ 1 rfl rfl hl.1 rfl (Nat.le_of_ble_eq_true rfl) hA hK hP hD hS ⟨Nat.le_refl _, Nat.le_refl _⟩ rfl rfl rfl zd_Loader_writeImage_28 (fun H locs hP hD hS => ?_)
      obtain ⟨v5, ev5, hF⟩ := xx_nm_some hF
      refine lv_iinc (k := 2) (v := v5) hx hb zd_Loader_writeImage_31 hl rfl (by rw [ev5, xx_lit4]) (by decide) rfl (fun ls hl => ?_)
      refine lv_goto (tgt := 2) hx hb zd_Loader_writeImage_34 (by decide) ?_
      exact ih u4 x1 v5 _ _ _ hF (lv_sub hl [1, 2, 0] rfl) hP hD hS
set_option maxHeartbeats 4000000 in
set_option maxRecDepth 100000 in
theorem zc_Loader_writeImage (l : Launch) (g : xx_G) (u : zz_S) (x1 : Int32) (u9 : zz_S) (hF : zf_Loader_writeImage u x1 = some u9) : xx_M l g.1 (zz_T g) (zz_W g) ky_Loader_writeImage kb_Loader_writeImage 5 none (xx_rm 4 88) [.ref (g.2.1 0), .int x1] u none u9 := by
  refine xx_body (by decide) (Nat.le_of_ble_eq_true rfl) ?_
  intro p e s m args below meth c A ls C hin hK hl hA hP hD hS
  have hx := C.1
  have hb := C.2.1
  have hown := C.2.2.2.1
  have hts := C.2.2.2.2.1
  have hl : lv_has ls 5 [(0, .ref (g.2.1 0)), (1, .int x1)] := hl
  unfold zf_Loader_writeImage at hF
  refine lv_iconst (v := (0 : Int32)) hx hb zd_Loader_writeImage_0 (by decide) ?_
  obtain ⟨v1, ev1, hF⟩ := xx_nm_some hF
  refine xx_topi ev1 ?_
  refine lv_istore_n hx hb zd_Loader_writeImage_1 rfl hl (by decide) rfl (fun ls hl => ?_)
  exact zw_Loader_writeImage_b2 C hA hK xx_fu u x1 v1 _ _ _ hF (lv_sub hl [1, 2, 0] rfl) hP hD hS
theorem kw_52 : Cond.fieldLink "ModuleLoader$Machine" 32 "ModuleLoader$Machine" "steps" "I" ∈ xx_tb := xx_in (List.mem_append_right _ (List.mem_of_getElem? (i := 52) (by decide +kernel))) (by decide +kernel)
set_option maxRecDepth 100000 in
theorem kw_748 : Cond.code ky_Machine_step kb_Machine_step 2 (some .int) ∈ xx_tb := xx_in (List.mem_append_right _ (List.mem_of_getElem? (i := 748) (by rfl))) (by decide +kernel)
theorem kw_745 : Cond.methodLink "ModuleLoader$Machine" 35 ky_Machine_step ∈ xx_tb := xx_in (List.mem_append_right _ (List.mem_of_getElem? (i := 745) (by decide +kernel))) (by decide +kernel)
theorem kw_747 : Cond.instanceMethod ky_Machine_step ∈ xx_tb := xx_in (List.mem_append_right _ (List.mem_of_getElem? (i := 747) (by decide +kernel))) (by decide +kernel)
theorem ks_Machine_step : Cond.selects "ModuleLoader$Machine" ky_Machine_step ky_Machine_step ∈ xx_tb := xx_in (List.mem_append_left _ (by decide +kernel)) (by decide +kernel)
set_option maxRecDepth 100000 in
theorem kw_744 : Cond.code ky_Arrays_fill kb_Arrays_fill 4 none ∈ xx_tb := xx_in (List.mem_append_right _ (List.mem_of_getElem? (i := 744) (by rfl))) (by decide +kernel)
theorem kw_742 : Cond.methodLink "ModuleLoader$Machine" 17 ky_Arrays_fill ∈ xx_tb := xx_in (List.mem_append_right _ (List.mem_of_getElem? (i := 742) (by decide +kernel))) (by decide +kernel)
theorem kw_743 : Cond.static ky_Arrays_fill ∈ xx_tb := xx_in (List.mem_append_right _ (List.mem_of_getElem? (i := 743) (by decide +kernel))) (by decide +kernel)
theorem kw_19 : Cond.initialized "java/util/Arrays" ∈ xx_tb := xx_in (List.mem_append_right _ (List.mem_of_getElem? (i := 19) (by decide +kernel))) (by decide +kernel)
theorem zd_Machine_run_0 : decode kb_Machine_run 0 = .ok (.aload_n 0, 1) := by decide +kernel
theorem zd_Machine_run_1 : decode kb_Machine_run 1 = .ok (.getfield 13, 3) := by decide +kernel
theorem zd_Machine_run_4 : decode kb_Machine_run 4 = .ok (.iconst 0, 1) := by decide +kernel
theorem zd_Machine_run_5 : decode kb_Machine_run 5 = .ok (.invokestatic 17, 3) := by decide +kernel
theorem zd_Machine_run_8 : decode kb_Machine_run 8 = .ok (.aload_n 0, 1) := by decide +kernel
theorem zd_Machine_run_9 : decode kb_Machine_run 9 = .ok (.getfield 13, 3) := by decide +kernel
theorem zd_Machine_run_12 : decode kb_Machine_run 12 = .ok (.iconst 1, 1) := by decide +kernel
theorem zd_Machine_run_13 : decode kb_Machine_run 13 = .ok (.bipush (-4), 2) := by decide +kernel
theorem zd_Machine_run_15 : decode kb_Machine_run 15 = .ok (.iastore, 1) := by decide +kernel
theorem zd_Machine_run_16 : decode kb_Machine_run 16 = .ok (.aload_n 0, 1) := by decide +kernel
theorem zd_Machine_run_17 : decode kb_Machine_run 17 = .ok (.getfield 13, 3) := by decide +kernel
theorem zd_Machine_run_20 : decode kb_Machine_run 20 = .ok (.iconst 2, 1) := by decide +kernel
theorem zd_Machine_run_21 : decode kb_Machine_run 21 = .ok (.sipush (4096), 3) := by decide +kernel
theorem zd_Machine_run_24 : decode kb_Machine_run 24 = .ok (.iastore, 1) := by decide +kernel
theorem zd_Machine_run_25 : decode kb_Machine_run 25 = .ok (.aload_n 0, 1) := by decide +kernel
theorem zd_Machine_run_26 : decode kb_Machine_run 26 = .ok (.getfield 13, 3) := by decide +kernel
theorem zd_Machine_run_29 : decode kb_Machine_run 29 = .ok (.bipush (10), 2) := by decide +kernel
theorem zd_Machine_run_31 : decode kb_Machine_run 31 = .ok (.iload_n 2, 1) := by decide +kernel
theorem zd_Machine_run_32 : decode kb_Machine_run 32 = .ok (.iastore, 1) := by decide +kernel
theorem zd_Machine_run_33 : decode kb_Machine_run 33 = .ok (.aload_n 0, 1) := by decide +kernel
theorem zd_Machine_run_34 : decode kb_Machine_run 34 = .ok (.getfield 13, 3) := by decide +kernel
theorem zd_Machine_run_37 : decode kb_Machine_run 37 = .ok (.bipush (11), 2) := by decide +kernel
theorem zd_Machine_run_39 : decode kb_Machine_run 39 = .ok (.iload_n 3, 1) := by decide +kernel
theorem zd_Machine_run_40 : decode kb_Machine_run 40 = .ok (.iastore, 1) := by decide +kernel
theorem zd_Machine_run_41 : decode kb_Machine_run 41 = .ok (.aload_n 0, 1) := by decide +kernel
theorem zd_Machine_run_42 : decode kb_Machine_run 42 = .ok (.iload_n 1, 1) := by decide +kernel
theorem zd_Machine_run_43 : decode kb_Machine_run 43 = .ok (.putfield 25, 3) := by decide +kernel
theorem zd_Machine_run_46 : decode kb_Machine_run 46 = .ok (.aload_n 0, 1) := by decide +kernel
theorem zd_Machine_run_47 : decode kb_Machine_run 47 = .ok (.iconst 0, 1) := by decide +kernel
theorem zd_Machine_run_48 : decode kb_Machine_run 48 = .ok (.putfield 29, 3) := by decide +kernel
theorem zd_Machine_run_51 : decode kb_Machine_run 51 = .ok (.aload_n 0, 1) := by decide +kernel
theorem zd_Machine_run_52 : decode kb_Machine_run 52 = .ok (.iconst 0, 1) := by decide +kernel
theorem zd_Machine_run_53 : decode kb_Machine_run 53 = .ok (.putfield 32, 3) := by decide +kernel
theorem zd_Machine_run_56 : decode kb_Machine_run 56 = .ok (.aload_n 0, 1) := by decide +kernel
theorem zd_Machine_run_57 : decode kb_Machine_run 57 = .ok (.getfield 25, 3) := by decide +kernel
theorem zd_Machine_run_60 : decode kb_Machine_run 60 = .ok (.bipush (-4), 2) := by decide +kernel
theorem zd_Machine_run_62 : decode kb_Machine_run 62 = .ok (.if_icmp .eq (40), 3) := by decide +kernel
theorem zd_Machine_run_65 : decode kb_Machine_run 65 = .ok (.aload_n 0, 1) := by decide +kernel
theorem zd_Machine_run_66 : decode kb_Machine_run 66 = .ok (.getfield 29, 3) := by decide +kernel
theorem zd_Machine_run_69 : decode kb_Machine_run 69 = .ok (.ifCond .ne (33), 3) := by decide +kernel
theorem zd_Machine_run_72 : decode kb_Machine_run 72 = .ok (.aload_n 0, 1) := by decide +kernel
theorem zd_Machine_run_73 : decode kb_Machine_run 73 = .ok (.getfield 32, 3) := by decide +kernel
theorem zd_Machine_run_76 : decode kb_Machine_run 76 = .ok (.iload 4, 2) := by decide +kernel
theorem zd_Machine_run_78 : decode kb_Machine_run 78 = .ok (.if_icmp .ge (24), 3) := by decide +kernel
theorem zd_Machine_run_81 : decode kb_Machine_run 81 = .ok (.aload_n 0, 1) := by decide +kernel
theorem zd_Machine_run_82 : decode kb_Machine_run 82 = .ok (.dup, 1) := by decide +kernel
theorem zd_Machine_run_83 : decode kb_Machine_run 83 = .ok (.getfield 32, 3) := by decide +kernel
theorem zd_Machine_run_86 : decode kb_Machine_run 86 = .ok (.iconst 1, 1) := by decide +kernel
theorem zd_Machine_run_87 : decode kb_Machine_run 87 = .ok (.iadd, 1) := by decide +kernel
theorem zd_Machine_run_88 : decode kb_Machine_run 88 = .ok (.putfield 32, 3) := by decide +kernel
theorem zd_Machine_run_91 : decode kb_Machine_run 91 = .ok (.aload_n 0, 1) := by decide +kernel
theorem zd_Machine_run_92 : decode kb_Machine_run 92 = .ok (.aload_n 0, 1) := by decide +kernel
theorem zd_Machine_run_93 : decode kb_Machine_run 93 = .ok (.invokevirtual 35, 3) := by decide +kernel
theorem zd_Machine_run_96 : decode kb_Machine_run 96 = .ok (.putfield 29, 3) := by decide +kernel
theorem zd_Machine_run_99 : decode kb_Machine_run 99 = .ok (.goto (-43), 3) := by decide +kernel
theorem zd_Machine_run_102 : decode kb_Machine_run 102 = .ok (.return_, 1) := by decide +kernel
def zf_Machine_run_b102 (u : zz_S) : Option (zz_S) := some u
def zf_Machine_run_b56 : Nat → zz_S → Int32 → Option (zz_S)
  | 0, _, _ => none
  | n + 1, u, x4 => if (u.1 3) = (-4 : Int32) then (zf_Machine_run_b102 u) else (if (u.1 1) = 0 then (if x4 ≤ (u.1 2) then (zf_Machine_run_b102 u) else (xx_nm ((u.1 2) + (1 : Int32)) fun v1 => xx_nm (va_up u.1 2 v1, u.2) fun u2 => xx_b2 (zf_Machine_step u2) fun v4 u3 => xx_nm (va_up u3.1 1 v4, u3.2) fun u5 => (zf_Machine_run_b56 n) u5 x4)) else (zf_Machine_run_b102 u))
def zf_Machine_run (u : zz_S) (x1 : Int32) (x2 : Int32) (x3 : Int32) (x4 : Int32) : Option (zz_S) := (zf_Arrays_fill u (0 : Int32)).bind fun u1 => (xx_as (u1.2.1 2) 32 (1 : Int32) (-4 : Int32)).bind fun f2 => xx_nm (u1.1, va_up u1.2.1 2 f2, u1.2.2) fun u3 => (xx_as (u3.2.1 2) 32 (2 : Int32) (4096 : Int32)).bind fun f4 => xx_nm (u3.1, va_up u3.2.1 2 f4, u3.2.2) fun u5 => (xx_as (u5.2.1 2) 32 (10 : Int32) x2).bind fun f6 => xx_nm (u5.1, va_up u5.2.1 2 f6, u5.2.2) fun u7 => (xx_as (u7.2.1 2) 32 (11 : Int32) x3).bind fun f8 => xx_nm (u7.1, va_up u7.2.1 2 f8, u7.2.2) fun u9 => xx_nm (va_up u9.1 3 x1, u9.2) fun u10 => xx_nm (va_up u10.1 1 (0 : Int32), u10.2) fun u11 => xx_nm (va_up u11.1 2 (0 : Int32), u11.2) fun u12 => zf_Machine_run_b56 xx_fu u12 x4
set_option maxHeartbeats 4000000 in
set_option maxRecDepth 100000 in
theorem zw_Machine_run_b102 {p : Program} {l : Launch} {e : Env} {s : State} {m : MethodId} {args : Array Value} {below : List Frame} {meth : Method} {c : Code} {A : Nat → Prop} {g : xx_G} {u9 : zz_S} (C : xx_C p s m args meth c kb_Machine_run 5 kr_Machine none) (hA : ∀ q, s.heap.size ≤ q → A q) (hK : va_K g.1 xx_cls (zz_T g) s) : ∀ (u : zz_S) (H : Heap) (locs : List Loc) (ls : Array Slot), zf_Machine_run_b102 u = some u9 → lv_has ls 5 [] → va_P g.1 xx_cls (zz_W g u) H → va_D A (zz_W g u) → va_S A s.heap H locs → W p l e (xx_rm 4 92) s m args below meth c H locs 0 0 (MQ below (xx_Q g.1 (zz_T g) (zz_W g) none u9 A) args s 0 0 A) (F0 m 102 ls []) := by
  have hx := C.1
  have hb := C.2.1
  have hown := C.2.2.2.1
  have hts := C.2.2.2.2.1
  intro u H locs ls hF hl hP hD hS
  unfold zf_Machine_run_b102 at hF
  exact xx_vret C hF hK hP hD hS zd_Machine_run_102
set_option maxHeartbeats 4000000 in
set_option maxRecDepth 100000 in
theorem zw_Machine_run_b56 {p : Program} {l : Launch} {e : Env} {s : State} {m : MethodId} {args : Array Value} {below : List Frame} {meth : Method} {c : Code} {A : Nat → Prop} {g : xx_G} {u9 : zz_S} (C : xx_C p s m args meth c kb_Machine_run 5 kr_Machine none) (hA : ∀ q, s.heap.size ≤ q → A q) (hK : va_K g.1 xx_cls (zz_T g) s) : ∀ (n : Nat), ∀ (u : zz_S) (x4 : Int32) (H : Heap) (locs : List Loc) (ls : Array Slot), zf_Machine_run_b56 n u x4 = some u9 → lv_has ls 5 [(0, .ref (g.2.1 4)), (4, .int x4)] → va_P g.1 xx_cls (zz_W g u) H → va_D A (zz_W g u) → va_S A s.heap H locs → W p l e (xx_rm 4 92) s m args below meth c H locs 0 0 (MQ below (xx_Q g.1 (zz_T g) (zz_W g) none u9 A) args s 0 0 A) (F0 m 56 ls []) := by
  have hx := C.1
  have hb := C.2.1
  have hown := C.2.2.2.1
  have hts := C.2.2.2.2.1
  intro n
  induction n with
  | zero =>
    intro u x4 H locs ls hF
    rw [zf_Machine_run_b56] at hF
    cases hF
  | succ n ih =>
    intro u x4 H locs ls hF hl hP hD hS
    rw [zf_Machine_run_b56] at hF
    refine lv_aload_n hx hb zd_Machine_run_56 rfl (lv_at hl 0 rfl) ?_
    refine xx_get C ki_Machine hK hP 4 rfl rfl 4 (by decide) kw_56 rfl rfl zd_Machine_run_57 ?_
    refine lv_bipush (v := (-4 : Int32)) hx hb zd_Machine_run_60 (by decide) ?_
    refine lv_icmp_eq (tgt := 102) hx hb zd_Machine_run_62 (by decide) (fun hc => ?_) (fun hc => ?_)
    · have hF := xx_ip hc hF
      exact zw_Machine_run_b102 C hA hK  u _ _ _ hF (lv_sub hl [] rfl) hP hD hS
    · have hF := xx_in' hc hF
      refine lv_aload_n hx hb zd_Machine_run_65 rfl (lv_at hl 0 rfl) ?_
      refine xx_get C ki_Machine hK hP 4 rfl rfl 0 (by decide) kw_50 rfl rfl zd_Machine_run_66 ?_
      refine lv_if_ne (tgt := 102) hx hb zd_Machine_run_69 (by decide) (fun hc => ?_) (fun hc => ?_)
      · have hF := xx_in' hc hF
        exact zw_Machine_run_b102 C hA hK  u _ _ _ hF (lv_sub hl [] rfl) hP hD hS
      · have hF := xx_ip hc hF
        refine lv_aload_n hx hb zd_Machine_run_72 rfl (lv_at hl 0 rfl) ?_
        refine xx_get C ki_Machine hK hP 4 rfl rfl 1 (by decide) kw_52 rfl rfl zd_Machine_run_73 ?_
        refine lv_iload hx hb zd_Machine_run_76 (lv_at hl 1 rfl) ?_
        refine lv_icmp_ge (tgt := 102) hx hb zd_Machine_run_78 (by decide) (fun hc => ?_) (fun hc => ?_)
        · have hF := xx_ip hc hF
          exact zw_Machine_run_b102 C hA hK  u _ _ _ hF (lv_sub hl [] rfl) hP hD hS
        · have hF := xx_in' hc hF
          refine lv_aload_n hx hb zd_Machine_run_81 rfl (lv_at hl 0 rfl) ?_
          refine lv_dup hx hb zd_Machine_run_82 rfl ?_
          refine xx_get C ki_Machine hK hP 4 rfl rfl 1 (by decide) kw_52 rfl rfl zd_Machine_run_83 ?_
          refine lv_iconst (v := (1 : Int32)) hx hb zd_Machine_run_86 (by decide) ?_
          refine lv_iadd hx hb zd_Machine_run_87 ?_
          obtain ⟨v1, ev1, hF⟩ := xx_nm_some hF
          refine xx_topi ev1 ?_
          obtain ⟨u2, eu2, hF⟩ := xx_nm_some hF
          refine xx_put (ws1 := zz_W g u2) C ki_Machine kt_Machine ko_Machine kn_Machine hK hP hD hS 4 rfl rfl 1 (by decide) kw_52 rfl rfl rfl rfl (Nat.le_of_ble_eq_true rfl) (by rw [eu2]; rfl) zd_Machine_run_88 (fun H locs hP hD hS => ?_)
          refine lv_aload_n hx hb zd_Machine_run_91 rfl (lv_at hl 0 rfl) ?_
          refine lv_aload_n hx hb zd_Machine_run_92 rfl (lv_at hl 0 rfl) ?_
          obtain ⟨v4, u3, eu3, hF⟩ := xx_b2_some hF
          refine xx_callV (n := 0) (As := []) (rest := [.ref (g.2.1 4)]) C (zc_Machine_step l g u2 v4 u3 eu3) ⟨kw_748, kw_745, kw_747, ks_Machine_step, kw_3⟩ ⟨by decide +kernel, by decide +kernel, by decide +kernel⟩ rfl ⟨Nat.le_of_ble_eq_true rfl, Nat.le_of_ble_eq_true rfl⟩ 4 rfl rfl hl.1 rfl (Nat.le_of_ble_eq_true rfl) hA hK hP hD hS ⟨Nat.le_refl _, Nat.le_refl _⟩ rfl rfl rfl zd_Machine_run_93 (fun H locs hP hD hS => ?_)
          obtain ⟨u5, eu5, hF⟩ := xx_nm_some hF
          refine xx_put (ws1 := zz_W g u5) C ki_Machine kt_Machine ko_Machine kn_Machine hK hP hD hS 4 rfl rfl 0 (by decide) kw_50 rfl rfl rfl rfl (Nat.le_of_ble_eq_true rfl) (by rw [eu5]; rfl) zd_Machine_run_96 (fun H locs hP hD hS => ?_)
          refine lv_goto (tgt := 56) hx hb zd_Machine_run_99 (by decide) ?_
          exact ih u5 x4 _ _ _ hF (lv_sub hl [0, 1] rfl) hP hD hS
set_option maxHeartbeats 4000000 in
set_option maxRecDepth 100000 in
theorem zc_Machine_run (l : Launch) (g : xx_G) (u : zz_S) (x1 : Int32) (x2 : Int32) (x3 : Int32) (x4 : Int32) (u9 : zz_S) (hF : zf_Machine_run u x1 x2 x3 x4 = some u9) : xx_M l g.1 (zz_T g) (zz_W g) ky_Machine_run kb_Machine_run 5 none (xx_rm 4 92) [.ref (g.2.1 4), .int x1, .int x2, .int x3, .int x4] u none u9 := by
  refine xx_body (by decide) (Nat.le_of_ble_eq_true rfl) ?_
  intro p e s m args below meth c A ls C hin hK hl hA hP hD hS
  have hx := C.1
  have hb := C.2.1
  have hown := C.2.2.2.1
  have hts := C.2.2.2.2.1
  have hl : lv_has ls 5 [(0, .ref (g.2.1 4)), (1, .int x1), (2, .int x2), (3, .int x3), (4, .int x4)] := hl
  unfold zf_Machine_run at hF
  refine lv_aload_n hx hb zd_Machine_run_0 rfl (lv_at hl 0 rfl) ?_
  refine xx_get C ki_Machine hK hP 4 rfl rfl 3 (by decide) kw_55 rfl rfl zd_Machine_run_1 ?_
  refine lv_iconst (v := (0 : Int32)) hx hb zd_Machine_run_4 (by decide) ?_
  obtain ⟨u1, eu1, hF⟩ := xx_ob hF
  refine xx_callS (n := 2) (As := [.ref (g.2.1 5), .int (0 : Int32)]) (rest := []) C (zc_Arrays_fill l g u (0 : Int32) u1 eu1) ⟨kw_744, kw_742, kw_743, kw_19⟩ ⟨by decide +kernel, by decide +kernel, by decide +kernel⟩ rfl ⟨Nat.le_of_ble_eq_true rfl, Nat.le_of_ble_eq_true rfl⟩ hl.1 rfl (Nat.le_of_ble_eq_true rfl) hA hK hP hD hS ⟨Nat.le_refl _, Nat.le_refl _⟩ rfl rfl rfl zd_Machine_run_5 (fun H locs hP hD hS => ?_)
  refine lv_aload_n hx hb zd_Machine_run_8 rfl (lv_at hl 0 rfl) ?_
  refine xx_get C ki_Machine hK hP 4 rfl rfl 3 (by decide) kw_55 rfl rfl zd_Machine_run_9 ?_
  refine lv_iconst (v := (1 : Int32)) hx hb zd_Machine_run_12 (by decide) ?_
  refine lv_bipush (v := (-4 : Int32)) hx hb zd_Machine_run_13 (by decide) ?_
  obtain ⟨f2, ef2, hF⟩ := xx_ob hF
  obtain ⟨u3, eu3, hF⟩ := xx_nm_some hF
  refine xx_iast (ws1 := zz_W g u3) C hK hP hD hS 5 0 rfl rfl ef2 (by rw [eu3]; rfl) zd_Machine_run_15 (fun H locs hP hD hS => ?_)
  refine lv_aload_n hx hb zd_Machine_run_16 rfl (lv_at hl 0 rfl) ?_
  refine xx_get C ki_Machine hK hP 4 rfl rfl 3 (by decide) kw_55 rfl rfl zd_Machine_run_17 ?_
  refine lv_iconst (v := (2 : Int32)) hx hb zd_Machine_run_20 (by decide) ?_
  refine lv_sipush (v := (4096 : Int32)) hx hb zd_Machine_run_21 (by decide) ?_
  obtain ⟨f4, ef4, hF⟩ := xx_ob hF
  obtain ⟨u5, eu5, hF⟩ := xx_nm_some hF
  refine xx_iast (ws1 := zz_W g u5) C hK hP hD hS 5 0 rfl rfl ef4 (by rw [eu5]; rfl) zd_Machine_run_24 (fun H locs hP hD hS => ?_)
  refine lv_aload_n hx hb zd_Machine_run_25 rfl (lv_at hl 0 rfl) ?_
  refine xx_get C ki_Machine hK hP 4 rfl rfl 3 (by decide) kw_55 rfl rfl zd_Machine_run_26 ?_
  refine lv_bipush (v := (10 : Int32)) hx hb zd_Machine_run_29 (by decide) ?_
  refine lv_iload_n hx hb zd_Machine_run_31 rfl (lv_at hl 2 rfl) ?_
  obtain ⟨f6, ef6, hF⟩ := xx_ob hF
  obtain ⟨u7, eu7, hF⟩ := xx_nm_some hF
  refine xx_iast (ws1 := zz_W g u7) C hK hP hD hS 5 0 rfl rfl ef6 (by rw [eu7]; rfl) zd_Machine_run_32 (fun H locs hP hD hS => ?_)
  refine lv_aload_n hx hb zd_Machine_run_33 rfl (lv_at hl 0 rfl) ?_
  refine xx_get C ki_Machine hK hP 4 rfl rfl 3 (by decide) kw_55 rfl rfl zd_Machine_run_34 ?_
  refine lv_bipush (v := (11 : Int32)) hx hb zd_Machine_run_37 (by decide) ?_
  refine lv_iload_n hx hb zd_Machine_run_39 rfl (lv_at hl 3 rfl) ?_
  obtain ⟨f8, ef8, hF⟩ := xx_ob hF
  obtain ⟨u9, eu9, hF⟩ := xx_nm_some hF
  refine xx_iast (ws1 := zz_W g u9) C hK hP hD hS 5 0 rfl rfl ef8 (by rw [eu9]; rfl) zd_Machine_run_40 (fun H locs hP hD hS => ?_)
  refine lv_aload_n hx hb zd_Machine_run_41 rfl (lv_at hl 0 rfl) ?_
  refine lv_iload_n hx hb zd_Machine_run_42 rfl (lv_at hl 1 rfl) ?_
  obtain ⟨u10, eu10, hF⟩ := xx_nm_some hF
  refine xx_put (ws1 := zz_W g u10) C ki_Machine kt_Machine ko_Machine kn_Machine hK hP hD hS 4 rfl rfl 4 (by decide) kw_56 rfl rfl rfl rfl (Nat.le_of_ble_eq_true rfl) (by rw [eu10]; rfl) zd_Machine_run_43 (fun H locs hP hD hS => ?_)
  refine lv_aload_n hx hb zd_Machine_run_46 rfl (lv_at hl 0 rfl) ?_
  refine lv_iconst (v := (0 : Int32)) hx hb zd_Machine_run_47 (by decide) ?_
  obtain ⟨u11, eu11, hF⟩ := xx_nm_some hF
  refine xx_put (ws1 := zz_W g u11) C ki_Machine kt_Machine ko_Machine kn_Machine hK hP hD hS 4 rfl rfl 0 (by decide) kw_50 rfl rfl rfl rfl (Nat.le_of_ble_eq_true rfl) (by rw [eu11]; rfl) zd_Machine_run_48 (fun H locs hP hD hS => ?_)
  refine lv_aload_n hx hb zd_Machine_run_51 rfl (lv_at hl 0 rfl) ?_
  refine lv_iconst (v := (0 : Int32)) hx hb zd_Machine_run_52 (by decide) ?_
  obtain ⟨u12, eu12, hF⟩ := xx_nm_some hF
  refine xx_put (ws1 := zz_W g u12) C ki_Machine kt_Machine ko_Machine kn_Machine hK hP hD hS 4 rfl rfl 1 (by decide) kw_52 rfl rfl rfl rfl (Nat.le_of_ble_eq_true rfl) (by rw [eu12]; rfl) zd_Machine_run_53 (fun H locs hP hD hS => ?_)
  exact zw_Machine_run_b56 C hA hK xx_fu u12 x4 _ _ _ hF (lv_sub hl [0, 4] rfl) hP hD hS
