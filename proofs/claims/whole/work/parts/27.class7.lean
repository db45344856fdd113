theorem kw_810 : Cond.methodLink "ModuleLoader$Machine" 101 ky_Memory_isGuarded ∈ xx_tb := xx_in (List.mem_append_right _ (List.mem_of_getElem? (i := 810) (by decide +kernel))) (by decide +kernel)
set_option maxRecDepth 100000 in
theorem kw_814 : Cond.code ky_Memory_putPart kb_Memory_putPart 6 none ∈ xx_tb := xx_in (List.mem_append_right _ (List.mem_of_getElem? (i := 814) (by rfl))) (by decide +kernel)
theorem kw_811 : Cond.methodLink "ModuleLoader$Machine" 104 ky_Memory_putPart ∈ xx_tb := xx_in (List.mem_append_right _ (List.mem_of_getElem? (i := 811) (by decide +kernel))) (by decide +kernel)
theorem kw_812 : Cond.instanceMethod ky_Memory_putPart ∈ xx_tb := xx_in (List.mem_append_right _ (List.mem_of_getElem? (i := 812) (by decide +kernel))) (by decide +kernel)
theorem kw_813 : Cond.selects "ModuleLoader$Memory" ky_Memory_putPart ky_Memory_putPart ∈ xx_tb := xx_in (List.mem_append_right _ (List.mem_of_getElem? (i := 813) (by decide +kernel))) (by decide +kernel)
theorem zd_Machine_writeMemory_0 : decode kb_Machine_writeMemory 0 = .ok (.iload_n 1, 1) := by decide +kernel
theorem zd_Machine_writeMemory_1 : decode kb_Machine_writeMemory 1 = .ok (.invokestatic 73, 3) := by decide +kernel
theorem zd_Machine_writeMemory_4 : decode kb_Machine_writeMemory 4 = .ok (.istore_n 2, 1) := by decide +kernel
theorem zd_Machine_writeMemory_5 : decode kb_Machine_writeMemory 5 = .ok (.iload_n 2, 1) := by decide +kernel
theorem zd_Machine_writeMemory_6 : decode kb_Machine_writeMemory 6 = .ok (.iconst 2, 1) := by decide +kernel
theorem zd_Machine_writeMemory_7 : decode kb_Machine_writeMemory 7 = .ok (.if_icmp .le (5), 3) := by decide +kernel
theorem zd_Machine_writeMemory_10 : decode kb_Machine_writeMemory 10 = .ok (.iconst 3, 1) := by decide +kernel
theorem zd_Machine_writeMemory_11 : decode kb_Machine_writeMemory 11 = .ok (.ireturn, 1) := by decide +kernel
theorem zd_Machine_writeMemory_12 : decode kb_Machine_writeMemory 12 = .ok (.iconst 1, 1) := by decide +kernel
theorem zd_Machine_writeMemory_13 : decode kb_Machine_writeMemory 13 = .ok (.iload_n 2, 1) := by decide +kernel
theorem zd_Machine_writeMemory_14 : decode kb_Machine_writeMemory 14 = .ok (.ishl, 1) := by decide +kernel
theorem zd_Machine_writeMemory_15 : decode kb_Machine_writeMemory 15 = .ok (.istore_n 3, 1) := by decide +kernel
theorem zd_Machine_writeMemory_16 : decode kb_Machine_writeMemory 16 = .ok (.aload_n 0, 1) := by decide +kernel
theorem zd_Machine_writeMemory_17 : decode kb_Machine_writeMemory 17 = .ok (.iload_n 1, 1) := by decide +kernel
theorem zd_Machine_writeMemory_18 : decode kb_Machine_writeMemory 18 = .ok (.invokevirtual 76, 3) := by decide +kernel
theorem zd_Machine_writeMemory_21 : decode kb_Machine_writeMemory 21 = .ok (.iload_n 1, 1) := by decide +kernel
theorem zd_Machine_writeMemory_22 : decode kb_Machine_writeMemory 22 = .ok (.bipush (25), 2) := by decide +kernel
theorem zd_Machine_writeMemory_24 : decode kb_Machine_writeMemory 24 = .ok (.ishr, 1) := by decide +kernel
theorem zd_Machine_writeMemory_25 : decode kb_Machine_writeMemory 25 = .ok (.iconst 5, 1) := by decide +kernel
theorem zd_Machine_writeMemory_26 : decode kb_Machine_writeMemory 26 = .ok (.ishl, 1) := by decide +kernel
theorem zd_Machine_writeMemory_27 : decode kb_Machine_writeMemory 27 = .ok (.iload_n 1, 1) := by decide +kernel
theorem zd_Machine_writeMemory_28 : decode kb_Machine_writeMemory 28 = .ok (.bipush (7), 2) := by decide +kernel
theorem zd_Machine_writeMemory_30 : decode kb_Machine_writeMemory 30 = .ok (.iushr, 1) := by decide +kernel
theorem zd_Machine_writeMemory_31 : decode kb_Machine_writeMemory 31 = .ok (.bipush (31), 2) := by decide +kernel
theorem zd_Machine_writeMemory_33 : decode kb_Machine_writeMemory 33 = .ok (.iand, 1) := by decide +kernel
theorem zd_Machine_writeMemory_34 : decode kb_Machine_writeMemory 34 = .ok (.ior, 1) := by decide +kernel
theorem zd_Machine_writeMemory_35 : decode kb_Machine_writeMemory 35 = .ok (.iadd, 1) := by decide +kernel
theorem zd_Machine_writeMemory_36 : decode kb_Machine_writeMemory 36 = .ok (.istore 4, 2) := by decide +kernel
theorem zd_Machine_writeMemory_38 : decode kb_Machine_writeMemory 38 = .ok (.aload_n 0, 1) := by decide +kernel
theorem zd_Machine_writeMemory_39 : decode kb_Machine_writeMemory 39 = .ok (.iload 4, 2) := by decide +kernel
theorem zd_Machine_writeMemory_41 : decode kb_Machine_writeMemory 41 = .ok (.iload_n 3, 1) := by decide +kernel
theorem zd_Machine_writeMemory_42 : decode kb_Machine_writeMemory 42 = .ok (.invokevirtual 94, 3) := by decide +kernel
theorem zd_Machine_writeMemory_45 : decode kb_Machine_writeMemory 45 = .ok (.istore 5, 2) := by decide +kernel
theorem zd_Machine_writeMemory_47 : decode kb_Machine_writeMemory 47 = .ok (.iload 5, 2) := by decide +kernel
theorem zd_Machine_writeMemory_49 : decode kb_Machine_writeMemory 49 = .ok (.ifCond .eq (6), 3) := by decide +kernel
theorem zd_Machine_writeMemory_52 : decode kb_Machine_writeMemory 52 = .ok (.iload 5, 2) := by decide +kernel
theorem zd_Machine_writeMemory_54 : decode kb_Machine_writeMemory 54 = .ok (.ireturn, 1) := by decide +kernel
theorem zd_Machine_writeMemory_55 : decode kb_Machine_writeMemory 55 = .ok (.aload_n 0, 1) := by decide +kernel
theorem zd_Machine_writeMemory_56 : decode kb_Machine_writeMemory 56 = .ok (.getfield 7, 3) := by decide +kernel
theorem zd_Machine_writeMemory_59 : decode kb_Machine_writeMemory 59 = .ok (.iload 4, 2) := by decide +kernel
theorem zd_Machine_writeMemory_61 : decode kb_Machine_writeMemory 61 = .ok (.invokevirtual 101, 3) := by decide +kernel
theorem zd_Machine_writeMemory_64 : decode kb_Machine_writeMemory 64 = .ok (.ifCond .eq (6), 3) := by decide +kernel
theorem zd_Machine_writeMemory_67 : decode kb_Machine_writeMemory 67 = .ok (.bipush (6), 2) := by decide +kernel
theorem zd_Machine_writeMemory_69 : decode kb_Machine_writeMemory 69 = .ok (.ireturn, 1) := by decide +kernel
theorem zd_Machine_writeMemory_70 : decode kb_Machine_writeMemory 70 = .ok (.aload_n 0, 1) := by decide +kernel
theorem zd_Machine_writeMemory_71 : decode kb_Machine_writeMemory 71 = .ok (.getfield 7, 3) := by decide +kernel
theorem zd_Machine_writeMemory_74 : decode kb_Machine_writeMemory 74 = .ok (.iload 4, 2) := by decide +kernel
theorem zd_Machine_writeMemory_76 : decode kb_Machine_writeMemory 76 = .ok (.iload_n 3, 1) := by decide +kernel
theorem zd_Machine_writeMemory_77 : decode kb_Machine_writeMemory 77 = .ok (.aload_n 0, 1) := by decide +kernel
theorem zd_Machine_writeMemory_78 : decode kb_Machine_writeMemory 78 = .ok (.iload_n 1, 1) := by decide +kernel
theorem zd_Machine_writeMemory_79 : decode kb_Machine_writeMemory 79 = .ok (.invokevirtual 79, 3) := by decide +kernel
theorem zd_Machine_writeMemory_82 : decode kb_Machine_writeMemory 82 = .ok (.invokevirtual 104, 3) := by decide +kernel
theorem zd_Machine_writeMemory_85 : decode kb_Machine_writeMemory 85 = .ok (.aload_n 0, 1) := by decide +kernel
theorem zd_Machine_writeMemory_86 : decode kb_Machine_writeMemory 86 = .ok (.dup, 1) := by decide +kernel
theorem zd_Machine_writeMemory_87 : decode kb_Machine_writeMemory 87 = .ok (.getfield 25, 3) := by decide +kernel
theorem zd_Machine_writeMemory_90 : decode kb_Machine_writeMemory 90 = .ok (.iconst 4, 1) := by decide +kernel
theorem zd_Machine_writeMemory_91 : decode kb_Machine_writeMemory 91 = .ok (.iadd, 1) := by decide +kernel
theorem zd_Machine_writeMemory_92 : decode kb_Machine_writeMemory 92 = .ok (.putfield 25, 3) := by decide +kernel
theorem zd_Machine_writeMemory_95 : decode kb_Machine_writeMemory 95 = .ok (.iconst 0, 1) := by decide +kernel
theorem zd_Machine_writeMemory_96 : decode kb_Machine_writeMemory 96 = .ok (.ireturn, 1) := by decide +kernel
def zf_Machine_writeMemory (u : zz_S) (x1 : Int32) : Option (Int32 × zz_S) := xx_b2 (zf_Machine_kindOf u x1) fun v2 u1 => if v2 ≤ (2 : Int32) then (xx_nm ((1 : Int32) <<< (v2 &&& 31)) fun v3 => xx_b2 (zf_Machine_firstOf u1 x1) fun v5 u4 => xx_nm (v5 + (((x1 >>> ((25 : Int32) &&& 31)) <<< ((5 : Int32) &&& 31)) ||| ((xx_ush x1 (7 : Int32)) &&& (31 : Int32)))) fun v6 => xx_b2 (zf_Machine_trapOfAccess u4 v6 v3) fun v8 u7 => if v8 = 0 then (xx_b2 (zf_Memory_isGuarded u7 v6) fun v10 u9 => if v10 = 0 then (xx_b2 (zf_Machine_secondOf u9 x1) fun v12 u11 => (zf_Memory_putPart u11 v6 v3 v12).bind fun u13 => xx_nm ((u13.1 3) + (4 : Int32)) fun v14 => xx_nm (va_up u13.1 3 v14, u13.2) fun u15 => some ((0 : Int32), u15)) else (some ((6 : Int32), u9))) else (some (v8, u7))) else (some ((3 : Int32), u1))
set_option maxHeartbeats 4000000 in
set_option maxRecDepth 100000 in
theorem zc_Machine_writeMemory (l : Launch) (g : xx_G) (u : zz_S) (x1 : Int32) (r : Int32) (u9 : zz_S) (hF : zf_Machine_writeMemory u x1 = some (r, u9)) : xx_M l g.1 (zz_T g) (zz_W g) ky_Machine_writeMemory kb_Machine_writeMemory 6 (some .int) (xx_rm 2 46) [.ref (g.2.1 4), .int x1] u (some (.int r)) u9 := by
  refine xx_body (by decide) (Nat.le_of_ble_eq_true rfl) ?_
  intro p e s m args below meth c A ls C hin hK hl hA hP hD hS
  have hx := C.1
  have hb := C.2.1
  have hown := C.2.2.2.1
  have hts := C.2.2.2.2.1
  have hl : lv_has ls 6 [(0, .ref (g.2.1 4)), (1, .int x1)] := hl
  unfold zf_Machine_writeMemory at hF
  refine lv_iload_n hx hb zd_Machine_writeMemory_0 rfl (lv_at hl 1 rfl) ?_
  obtain ⟨v2, u1, eu1, hF⟩ := xx_b2_some hF
  refine xx_callS (n := 1) (As := [.int x1]) (rest := []) C (zc_Machine_kindOf l g u x1 v2 u1 eu1) ⟨kw_765, kw_763, kw_764, kw_3⟩ ⟨by decide +kernel, by decide +kernel, by decide +kernel⟩ rfl ⟨Nat.le_of_ble_eq_true rfl, Nat.le_of_ble_eq_true rfl⟩ hl.1 rfl (Nat.le_of_ble_eq_true rfl) hA hK hP hD hS ⟨Nat.le_refl _, Nat.le_refl _⟩ rfl rfl rfl zd_Machine_writeMemory_1 (fun H locs hP hD hS => ?_)
  refine lv_istore_n hx hb zd_Machine_writeMemory_4 rfl hl (by decide) rfl (fun ls hl => ?_)
  refine lv_iload_n hx hb zd_Machine_writeMemory_5 rfl (lv_at hl 0 rfl) ?_
  refine lv_iconst (v := (2 : Int32)) hx hb zd_Machine_writeMemory_6 (by decide) ?_
  refine lv_icmp_le (tgt := 12) hx hb zd_Machine_writeMemory_7 (by decide) (fun hc => ?_) (fun hc => ?_)
  · have hF := xx_ip hc hF
    refine lv_iconst (v := (1 : Int32)) hx hb zd_Machine_writeMemory_12 (by decide) ?_
    refine lv_iload_n hx hb zd_Machine_writeMemory_13 rfl (lv_at hl 0 rfl) ?_
    refine lv_ishl hx hb zd_Machine_writeMemory_14 ?_
    obtain ⟨v3, ev3, hF⟩ := xx_nm_some hF
    refine xx_topi ev3 ?_
    refine lv_istore_n hx hb zd_Machine_writeMemory_15 rfl hl (by decide) rfl (fun ls hl => ?_)
    refine lv_aload_n hx hb zd_Machine_writeMemory_16 rfl (lv_at hl 2 rfl) ?_
    refine lv_iload_n hx hb zd_Machine_writeMemory_17 rfl (lv_at hl 3 rfl) ?_
    obtain ⟨v5, u4, eu4, hF⟩ := xx_b2_some hF
    refine xx_callV (n := 1) (As := [.int x1]) (rest := []) C (zc_Machine_firstOf l g u1 x1 v5 u4 eu4) ⟨kw_769, kw_766, kw_768, ks_Machine_firstOf, kw_3⟩ ⟨by decide +kernel, by decide +kernel, by decide +kernel⟩ rfl ⟨Nat.le_of_ble_eq_true rfl, Nat.le_of_ble_eq_true rfl⟩ 4 rfl rfl hl.1 rfl (Nat.le_of_ble_eq_true rfl) hA hK hP hD hS ⟨Nat.le_refl _, Nat.le_refl _⟩ rfl rfl rfl zd_Machine_writeMemory_18 (fun H locs hP hD hS => ?_)
    refine lv_iload_n hx hb zd_Machine_writeMemory_21 rfl (lv_at hl 3 rfl) ?_
    refine lv_bipush (v := (25 : Int32)) hx hb zd_Machine_writeMemory_22 (by decide) ?_
    refine lv_ishr hx hb zd_Machine_writeMemory_24 ?_
    refine lv_iconst (v := (5 : Int32)) hx hb zd_Machine_writeMemory_25 (by decide) ?_
    refine lv_ishl hx hb zd_Machine_writeMemory_26 ?_
    refine lv_iload_n hx hb zd_Machine_writeMemory_27 rfl (lv_at hl 3 rfl) ?_
    refine lv_bipush (v := (7 : Int32)) hx hb zd_Machine_writeMemory_28 (by decide) ?_
    refine lv_iushr hx hb zd_Machine_writeMemory_30 (xx_ush_eq x1 (7 : Int32)) ?_
    refine lv_bipush (v := (31 : Int32)) hx hb zd_Machine_writeMemory_31 (by decide) ?_
    refine lv_iand hx hb zd_Machine_writeMemory_33 ?_
    refine lv_ior hx hb zd_Machine_writeMemory_34 ?_
    refine lv_iadd hx hb zd_Machine_writeMemory_35 ?_
    obtain ⟨v6, ev6, hF⟩ := xx_nm_some hF
    refine xx_topi ev6 ?_
    refine lv_istore hx hb zd_Machine_writeMemory_36 hl (by decide) rfl (fun ls hl => ?_)
    refine lv_aload_n hx hb zd_Machine_writeMemory_38 rfl (lv_at hl 3 rfl) ?_
    refine lv_iload hx hb zd_Machine_writeMemory_39 (lv_at hl 0 rfl) ?_
    refine lv_iload_n hx hb zd_Machine_writeMemory_41 rfl (lv_at hl 1 rfl) ?_
    obtain ⟨v8, u7, eu7, hF⟩ := xx_b2_some hF
    refine xx_callV (n := 2) (As := [.int v6, .int v3]) (rest := []) C (zc_Machine_trapOfAccess l g u4 v6 v3 v8 u7 eu7) ⟨kw_795, kw_792, kw_794, ks_Machine_trapOfAccess, kw_3⟩ ⟨by decide +kernel, by decide +kernel, by decide +kernel⟩ rfl ⟨Nat.le_of_ble_eq_true rfl, Nat.le_of_ble_eq_true rfl⟩ 4 rfl rfl hl.1 rfl (Nat.le_of_ble_eq_true rfl) hA hK hP hD hS ⟨Nat.le_refl _, Nat.le_refl _⟩ rfl rfl rfl zd_Machine_writeMemory_42 (fun H locs hP hD hS => ?_)
    refine lv_istore hx hb zd_Machine_writeMemory_45 hl (by decide) rfl (fun ls hl => ?_)
    refine lv_iload hx hb zd_Machine_writeMemory_47 (lv_at hl 0 rfl) ?_
    refine lv_if_eq (tgt := 55) hx hb zd_Machine_writeMemory_49 (by decide) (fun hc => ?_) (fun hc => ?_)
    · have hF := xx_ip hc hF
      refine lv_aload_n hx hb zd_Machine_writeMemory_55 rfl (lv_at hl 4 rfl) ?_
      refine xx_get C ki_Machine hK hP 4 rfl rfl 2 (by decide) kw_54 rfl rfl zd_Machine_writeMemory_56 ?_
      refine lv_iload hx hb zd_Machine_writeMemory_59 (lv_at hl 1 rfl) ?_
      obtain ⟨v10, u9, eu9, hF⟩ := xx_b2_some hF
      refine xx_callV (n := 1) (As := [.int v6]) (rest := []) C (zc_Memory_isGuarded l g u7 v6 v10 u9 eu9) ⟨kw_255, kw_810, kw_253, kw_254, kw_2⟩ ⟨by decide +kernel, by decide +kernel, by decide +kernel⟩ rfl ⟨Nat.le_of_ble_eq_true rfl, Nat.le_of_ble_eq_true rfl⟩ 1 rfl rfl hl.1 rfl (Nat.le_of_ble_eq_true rfl) hA hK hP hD hS ⟨Nat.le_refl _, Nat.le_refl _⟩ rfl rfl rfl zd_Machine_writeMemory_61 (fun H locs hP hD hS => ?_)
      refine lv_if_eq (tgt := 70) hx hb zd_Machine_writeMemory_64 (by decide) (fun hc => ?_) (fun hc => ?_)
      · have hF := xx_ip hc hF
        refine lv_aload_n hx hb zd_Machine_writeMemory_70 rfl (lv_at hl 4 rfl) ?_
        refine xx_get C ki_Machine hK hP 4 rfl rfl 2 (by decide) kw_54 rfl rfl zd_Machine_writeMemory_71 ?_
        refine lv_iload hx hb zd_Machine_writeMemory_74 (lv_at hl 1 rfl) ?_
        refine lv_iload_n hx hb zd_Machine_writeMemory_76 rfl (lv_at hl 2 rfl) ?_
        refine lv_aload_n hx hb zd_Machine_writeMemory_77 rfl (lv_at hl 4 rfl) ?_
        refine lv_iload_n hx hb zd_Machine_writeMemory_78 rfl (lv_at hl 5 rfl) ?_
        obtain ⟨v12, u11, eu11, hF⟩ := xx_b2_some hF
        refine xx_callV (n := 1) (As := [.int x1]) (rest := [.int v3, .int v6, .ref (g.2.1 1)]) C (zc_Machine_secondOf l g u9 x1 v12 u11 eu11) ⟨kw_777, kw_774, kw_776, ks_Machine_secondOf, kw_3⟩ ⟨by decide +kernel, by decide +kernel, by decide +kernel⟩ rfl ⟨Nat.le_of_ble_eq_true rfl, Nat.le_of_ble_eq_true rfl⟩ 4 rfl rfl hl.1 rfl (Nat.le_of_ble_eq_true rfl) hA hK hP hD hS ⟨Nat.le_refl _, Nat.le_refl _⟩ rfl rfl rfl zd_Machine_writeMemory_79 (fun H locs hP hD hS => ?_)
        obtain ⟨u13, eu13, hF⟩ := xx_ob hF
        refine xx_callV (n := 3) (As := [.int v6, .int v3, .int v12]) (rest := []) C (zc_Memory_putPart l g u11 v6 v3 v12 u13 eu13) ⟨kw_814, kw_811, kw_812, kw_813, kw_2⟩ ⟨by decide +kernel, by decide +kernel, by decide +kernel⟩ rfl ⟨Nat.le_of_ble_eq_true rfl, Nat.le_of_ble_eq_true rfl⟩ 1 rfl rfl hl.1 rfl (Nat.le_of_ble_eq_true rfl) hA hK hP hD hS ⟨Nat.le_refl _, Nat.le_refl _⟩ rfl rfl rfl zd_Machine_writeMemory_82 (fun H locs hP hD hS => ?_)
        refine lv_aload_n hx hb zd_Machine_writeMemory_85 rfl (lv_at hl 4 rfl) ?_
        refine lv_dup hx hb zd_Machine_writeMemory_86 rfl ?_
        refine xx_get C ki_Machine hK hP 4 rfl rfl 4 (by decide) kw_56 rfl rfl zd_Machine_writeMemory_87 ?_
        refine lv_iconst (v := (4 : Int32)) hx hb zd_Machine_writeMemory_90 (by decide) ?_
        refine lv_iadd hx hb zd_Machine_writeMemory_91 ?_
        obtain ⟨v14, ev14, hF⟩ := xx_nm_some hF
        refine xx_topi ev14 ?_
        obtain ⟨u15, eu15, hF⟩ := xx_nm_some hF
        refine xx_put (ws1 := zz_W g u15) C ki_Machine kt_Machine ko_Machine kn_Machine hK hP hD hS 4 rfl rfl 4 (by decide) kw_56 rfl rfl rfl rfl (Nat.le_of_ble_eq_true rfl) (by rw [eu15]; rfl) zd_Machine_writeMemory_92 (fun H locs hP hD hS => ?_)
        refine lv_iconst (v := (0 : Int32)) hx hb zd_Machine_writeMemory_95 (by decide) ?_
        exact xx_iret C hF hK hP hD hS zd_Machine_writeMemory_96
      · have hF := xx_in' hc hF
        refine lv_bipush (v := (6 : Int32)) hx hb zd_Machine_writeMemory_67 (by decide) ?_
        exact xx_iret C hF hK hP hD hS zd_Machine_writeMemory_69
    · have hF := xx_in' hc hF
      refine lv_iload hx hb zd_Machine_writeMemory_52 (lv_at hl 0 rfl) ?_
      exact xx_iret C hF hK hP hD hS zd_Machine_writeMemory_54
  · have hF := xx_in' hc hF
    refine lv_iconst (v := (3 : Int32)) hx hb zd_Machine_writeMemory_10 (by decide) ?_
    exact xx_iret C hF hK hP hD hS zd_Machine_writeMemory_11
set_option maxRecDepth 100000 in
theorem kw_821 : Cond.code ky_Machine_computed kb_Machine_computed 4 (some .int) ∈ xx_tb := xx_in (List.mem_append_right _ (List.mem_of_getElem? (i := 821) (by rfl))) (by decide +kernel)
theorem kw_819 : Cond.methodLink "ModuleLoader$Machine" 108 ky_Machine_computed ∈ xx_tb := xx_in (List.mem_append_right _ (List.mem_of_getElem? (i := 819) (by decide +kernel))) (by decide +kernel)
theorem kw_820 : Cond.static ky_Machine_computed ∈ xx_tb := xx_in (List.mem_append_right _ (List.mem_of_getElem? (i := 820) (by decide +kernel))) (by decide +kernel)
theorem zd_Machine_computeWithImmediate_0 : decode kb_Machine_computeWithImmediate 0 = .ok (.iload_n 1, 1) := by decide +kernel
theorem zd_Machine_computeWithImmediate_1 : decode kb_Machine_computeWithImmediate 1 = .ok (.invokestatic 73, 3) := by decide +kernel
theorem zd_Machine_computeWithImmediate_4 : decode kb_Machine_computeWithImmediate 4 = .ok (.istore_n 2, 1) := by decide +kernel
theorem zd_Machine_computeWithImmediate_5 : decode kb_Machine_computeWithImmediate 5 = .ok (.iload_n 2, 1) := by decide +kernel
theorem zd_Machine_computeWithImmediate_6 : decode kb_Machine_computeWithImmediate 6 = .ok (.iconst 1, 1) := by decide +kernel
theorem zd_Machine_computeWithImmediate_7 : decode kb_Machine_computeWithImmediate 7 = .ok (.if_icmp .eq (8), 3) := by decide +kernel
theorem zd_Machine_computeWithImmediate_10 : decode kb_Machine_computeWithImmediate 10 = .ok (.iload_n 2, 1) := by decide +kernel
theorem zd_Machine_computeWithImmediate_11 : decode kb_Machine_computeWithImmediate 11 = .ok (.iconst 5, 1) := by decide +kernel
theorem zd_Machine_computeWithImmediate_12 : decode kb_Machine_computeWithImmediate 12 = .ok (.if_icmp .ne (7), 3) := by decide +kernel
theorem zd_Machine_computeWithImmediate_15 : decode kb_Machine_computeWithImmediate 15 = .ok (.iconst 1, 1) := by decide +kernel
theorem zd_Machine_computeWithImmediate_16 : decode kb_Machine_computeWithImmediate 16 = .ok (.goto (4), 3) := by decide +kernel
theorem zd_Machine_computeWithImmediate_19 : decode kb_Machine_computeWithImmediate 19 = .ok (.iconst 0, 1) := by decide +kernel
theorem zd_Machine_computeWithImmediate_20 : decode kb_Machine_computeWithImmediate 20 = .ok (.istore_n 3, 1) := by decide +kernel
theorem zd_Machine_computeWithImmediate_21 : decode kb_Machine_computeWithImmediate 21 = .ok (.iload_n 3, 1) := by decide +kernel
theorem zd_Machine_computeWithImmediate_22 : decode kb_Machine_computeWithImmediate 22 = .ok (.ifCond .eq (10), 3) := by decide +kernel
theorem zd_Machine_computeWithImmediate_25 : decode kb_Machine_computeWithImmediate 25 = .ok (.iload_n 1, 1) := by decide +kernel
theorem zd_Machine_computeWithImmediate_26 : decode kb_Machine_computeWithImmediate 26 = .ok (.bipush (25), 2) := by decide +kernel
theorem zd_Machine_computeWithImmediate_28 : decode kb_Machine_computeWithImmediate 28 = .ok (.iushr, 1) := by decide +kernel
theorem zd_Machine_computeWithImmediate_29 : decode kb_Machine_computeWithImmediate 29 = .ok (.goto (4), 3) := by decide +kernel
theorem zd_Machine_computeWithImmediate_32 : decode kb_Machine_computeWithImmediate 32 = .ok (.iconst 0, 1) := by decide +kernel
theorem zd_Machine_computeWithImmediate_33 : decode kb_Machine_computeWithImmediate 33 = .ok (.istore 4, 2) := by decide +kernel
theorem zd_Machine_computeWithImmediate_35 : decode kb_Machine_computeWithImmediate 35 = .ok (.iload 4, 2) := by decide +kernel
theorem zd_Machine_computeWithImmediate_37 : decode kb_Machine_computeWithImmediate 37 = .ok (.ifCond .eq (17), 3) := by decide +kernel
theorem zd_Machine_computeWithImmediate_40 : decode kb_Machine_computeWithImmediate 40 = .ok (.iload 4, 2) := by decide +kernel
theorem zd_Machine_computeWithImmediate_42 : decode kb_Machine_computeWithImmediate 42 = .ok (.bipush (32), 2) := by decide +kernel
theorem zd_Machine_computeWithImmediate_44 : decode kb_Machine_computeWithImmediate 44 = .ok (.if_icmp .ne (8), 3) := by decide +kernel
theorem zd_Machine_computeWithImmediate_47 : decode kb_Machine_computeWithImmediate 47 = .ok (.iload_n 2, 1) := by decide +kernel
theorem zd_Machine_computeWithImmediate_48 : decode kb_Machine_computeWithImmediate 48 = .ok (.iconst 5, 1) := by decide +kernel
theorem zd_Machine_computeWithImmediate_49 : decode kb_Machine_computeWithImmediate 49 = .ok (.if_icmp .eq (5), 3) := by decide +kernel
theorem zd_Machine_computeWithImmediate_52 : decode kb_Machine_computeWithImmediate 52 = .ok (.iconst 3, 1) := by decide +kernel
theorem zd_Machine_computeWithImmediate_53 : decode kb_Machine_computeWithImmediate 53 = .ok (.ireturn, 1) := by decide +kernel
theorem zd_Machine_computeWithImmediate_54 : decode kb_Machine_computeWithImmediate 54 = .ok (.aload_n 0, 1) := by decide +kernel
theorem zd_Machine_computeWithImmediate_55 : decode kb_Machine_computeWithImmediate 55 = .ok (.iload_n 1, 1) := by decide +kernel
theorem zd_Machine_computeWithImmediate_56 : decode kb_Machine_computeWithImmediate 56 = .ok (.iload_n 2, 1) := by decide +kernel
theorem zd_Machine_computeWithImmediate_57 : decode kb_Machine_computeWithImmediate 57 = .ok (.iload 4, 2) := by decide +kernel
theorem zd_Machine_computeWithImmediate_59 : decode kb_Machine_computeWithImmediate 59 = .ok (.ifCond .eq (7), 3) := by decide +kernel
theorem zd_Machine_computeWithImmediate_62 : decode kb_Machine_computeWithImmediate 62 = .ok (.iconst 1, 1) := by decide +kernel
theorem zd_Machine_computeWithImmediate_63 : decode kb_Machine_computeWithImmediate 63 = .ok (.goto (4), 3) := by decide +kernel
theorem zd_Machine_computeWithImmediate_66 : decode kb_Machine_computeWithImmediate 66 = .ok (.iconst 0, 1) := by decide +kernel
theorem zd_Machine_computeWithImmediate_67 : decode kb_Machine_computeWithImmediate 67 = .ok (.aload_n 0, 1) := by decide +kernel
theorem zd_Machine_computeWithImmediate_68 : decode kb_Machine_computeWithImmediate 68 = .ok (.iload_n 1, 1) := by decide +kernel
theorem zd_Machine_computeWithImmediate_69 : decode kb_Machine_computeWithImmediate 69 = .ok (.invokevirtual 76, 3) := by decide +kernel
theorem zd_Machine_computeWithImmediate_72 : decode kb_Machine_computeWithImmediate 72 = .ok (.iload_n 1, 1) := by decide +kernel
theorem zd_Machine_computeWithImmediate_73 : decode kb_Machine_computeWithImmediate 73 = .ok (.bipush (20), 2) := by decide +kernel
theorem zd_Machine_computeWithImmediate_75 : decode kb_Machine_computeWithImmediate 75 = .ok (.ishr, 1) := by decide +kernel
theorem zd_Machine_computeWithImmediate_76 : decode kb_Machine_computeWithImmediate 76 = .ok (.invokestatic 108, 3) := by decide +kernel
theorem zd_Machine_computeWithImmediate_79 : decode kb_Machine_computeWithImmediate 79 = .ok (.aload_n 0, 1) := by decide +kernel
theorem zd_Machine_computeWithImmediate_80 : decode kb_Machine_computeWithImmediate 80 = .ok (.getfield 25, 3) := by decide +kernel
theorem zd_Machine_computeWithImmediate_83 : decode kb_Machine_computeWithImmediate 83 = .ok (.iconst 4, 1) := by decide +kernel
theorem zd_Machine_computeWithImmediate_84 : decode kb_Machine_computeWithImmediate 84 = .ok (.iadd, 1) := by decide +kernel
theorem zd_Machine_computeWithImmediate_85 : decode kb_Machine_computeWithImmediate 85 = .ok (.invokevirtual 47, 3) := by decide +kernel
theorem zd_Machine_computeWithImmediate_88 : decode kb_Machine_computeWithImmediate 88 = .ok (.ireturn, 1) := by decide +kernel
def zf_Machine_computeWithImmediate_b52 (u : zz_S) : Option (Int32 × zz_S) := some ((3 : Int32), u)
def zf_Machine_computeWithImmediate_b67 (u : zz_S) (x1 : Int32) (y1 : Int32) (y2 : Int32) (y3 : Int32) : Option (Int32 × zz_S) := xx_b2 (zf_Machine_firstOf u x1) fun v2 u1 => xx_b2 (zf_Machine_computed u1 y2 y3 v2 (x1 >>> ((20 : Int32) &&& 31))) fun v4 u3 => xx_b2 (zf_Machine_finish u3 y1 v4 ((u3.1 3) + (4 : Int32))) fun v6 u5 => some (v6, u5)
def zf_Machine_computeWithImmediate_b54 (u : zz_S) (x1 : Int32) (x2 : Int32) (x4 : Int32) : Option (Int32 × zz_S) := if x4 = 0 then (zf_Machine_computeWithImmediate_b67 u x1 x1 x2 (0 : Int32)) else (zf_Machine_computeWithImmediate_b67 u x1 x1 x2 (1 : Int32))
def zf_Machine_computeWithImmediate_b33 (u : zz_S) (x1 : Int32) (x2 : Int32) (y0 : Int32) : Option (Int32 × zz_S) := if y0 = 0 then (zf_Machine_computeWithImmediate_b54 u x1 x2 y0) else (if y0 = (32 : Int32) then (if x2 = (5 : Int32) then (zf_Machine_computeWithImmediate_b54 u x1 x2 y0) else (zf_Machine_computeWithImmediate_b52 u)) else (zf_Machine_computeWithImmediate_b52 u))
def zf_Machine_computeWithImmediate_b20 (u : zz_S) (x1 : Int32) (x2 : Int32) (y0 : Int32) : Option (Int32 × zz_S) := if y0 = 0 then (zf_Machine_computeWithImmediate_b33 u x1 x2 (0 : Int32)) else (zf_Machine_computeWithImmediate_b33 u x1 x2 (xx_ush x1 (25 : Int32)))
def zf_Machine_computeWithImmediate_b15 (u : zz_S) (x1 : Int32) (x2 : Int32) : Option (Int32 × zz_S) := zf_Machine_computeWithImmediate_b20 u x1 x2 (1 : Int32)
def zf_Machine_computeWithImmediate (u : zz_S) (x1 : Int32) : Option (Int32 × zz_S) := xx_b2 (zf_Machine_kindOf u x1) fun v2 u1 => if v2 = (1 : Int32) then (zf_Machine_computeWithImmediate_b15 u1 x1 v2) else (if v2 = (5 : Int32) then (zf_Machine_computeWithImmediate_b15 u1 x1 v2) else (zf_Machine_computeWithImmediate_b20 u1 x1 v2 (0 : Int32)))
set_option maxHeartbeats 4000000 in
set_option maxRecDepth 100000 in
theorem zw_Machine_computeWithImmediate_b52 {p : Program} {l : Launch} {e : Env} {s : State} {m : MethodId} {args : Array Value} {below : List Frame} {meth : Method} {c : Code} {A : Nat → Prop} {g : xx_G} {r : Int32} {u9 : zz_S} (C : xx_C p s m args meth c kb_Machine_computeWithImmediate 5 kr_Machine (some .int)) (hA : ∀ q, s.heap.size ≤ q → A q) (hK : va_K g.1 xx_cls (zz_T g) s) : ∀ (u : zz_S) (H : Heap) (locs : List Loc) (ls : Array Slot), zf_Machine_computeWithImmediate_b52 u = some (r, u9) → lv_has ls 5 [] → va_P g.1 xx_cls (zz_W g u) H → va_D A (zz_W g u) → va_S A s.heap H locs → W p l e (xx_rm 2 44) s m args below meth c H locs 0 0 (MQ below (xx_Q g.1 (zz_T g) (zz_W g) (some (.int r)) u9 A) args s 0 0 A) (F0 m 52 ls []) := by
  have hx := C.1
  have hb := C.2.1
  have hown := C.2.2.2.1
  have hts := C.2.2.2.2.1
  intro u H locs ls hF hl hP hD hS
  unfold zf_Machine_computeWithImmediate_b52 at hF
  refine lv_iconst (v := (3 : Int32)) hx hb zd_Machine_computeWithImmediate_52 (by decide) ?_
  exact xx_iret C hF hK hP hD hS zd_Machine_computeWithImmediate_53
set_option maxHeartbeats 4000000 in
set_option maxRecDepth 100000 in
theorem zw_Machine_computeWithImmediate_b67 {p : Program} {l : Launch} {e : Env} {s : State} {m : MethodId} {args : Array Value} {below : List Frame} {meth : Method} {c : Code} {A : Nat → Prop} {g : xx_G} {r : Int32} {u9 : zz_S} (C : xx_C p s m args meth c kb_Machine_computeWithImmediate 5 kr_Machine (some .int)) (hA : ∀ q, s.heap.size ≤ q → A q) (hK : va_K g.1 xx_cls (zz_T g) s) : ∀ (u : zz_S) (x1 : Int32) (y1 : Int32) (y2 : Int32) (y3 : Int32) (H : Heap) (locs : List Loc) (ls : Array Slot), zf_Machine_computeWithImmediate_b67 u x1 y1 y2 y3 = some (r, u9) → lv_has ls 5 [(0, .ref (g.2.1 4)), (1, .int x1)] → va_P g.1 xx_cls (zz_W g u) H → va_D A (zz_W g u) → va_S A s.heap H locs → W p l e (xx_rm 2 44) s m args below meth c H locs 0 0 (MQ below (xx_Q g.1 (zz_T g) (zz_W g) (some (.int r)) u9 A) args s 0 0 A) (F0 m 67 ls [.int y3, .int y2, .int y1, .ref (g.2.1 4)]) := by
  have hx := C.1
  have hb := C.2.1
  have hown := C.2.2.2.1
  have hts := C.2.2.2.2.1
  intro u x1 y1 y2 y3 H locs ls hF hl hP hD hS
  unfold zf_Machine_computeWithImmediate_b67 at hF
  refine lv_aload_n hx hb zd_Machine_computeWithImmediate_67 rfl (lv_at hl 0 rfl) ?_
  refine lv_iload_n hx hb zd_Machine_computeWithImmediate_68 rfl (lv_at hl 1 rfl) ?_
  obtain ⟨v2, u1, eu1, hF⟩ := xx_b2_some hF
  refine xx_callV (n := 1) (As := [.int x1]) (rest := [.int y3, .int y2, .int y1, .ref (g.2.1 4)]) C (zc_Machine_firstOf l g u x1 v2 u1 eu1) ⟨kw_769, kw_766, kw_768, ks_Machine_firstOf, kw_3⟩ ⟨by decide +kernel, by decide +kernel, by decide +kernel⟩ rfl ⟨Nat.le_of_ble_eq_true rfl, Nat.le_of_ble_eq_true rfl⟩ 4 rfl rfl hl.1 rfl (Nat.le_of_ble_eq_true rfl) hA hK hP hD hS ⟨Nat.le_refl _, Nat.le_refl _⟩ rfl rfl rfl zd_Machine_computeWithImmediate_69 (fun H locs hP hD hS => ?_)
  refine lv_iload_n hx hb zd_Machine_computeWithImmediate_72 rfl (lv_at hl 1 rfl) ?_
  refine lv_bipush (v := (20 : Int32)) hx hb zd_Machine_computeWithImmediate_73 (by decide) ?_
  refine lv_ishr hx hb zd_Machine_computeWithImmediate_75 ?_
  obtain ⟨v4, u3, eu3, hF⟩ := xx_b2_some hF
  refine xx_callS (n := 4) (As := [.int y2, .int y3, .int v2, .int (x1 >>> ((20 : Int32) &&& 31))]) (rest := [.int y1, .ref (g.2.1 4)]) C (zc_Machine_computed l g u1 y2 y3 v2 (x1 >>> ((20 : Int32) &&& 31)) v4 u3 eu3) ⟨kw_821, kw_819, kw_820, kw_3⟩ ⟨by decide +kernel, by decide +kernel, by decide +kernel⟩ rfl ⟨Nat.le_of_ble_eq_true rfl, Nat.le_of_ble_eq_true rfl⟩ hl.1 rfl (Nat.le_of_ble_eq_true rfl) hA hK hP hD hS ⟨Nat.le_refl _, Nat.le_refl _⟩ rfl rfl rfl zd_Machine_computeWithImmediate_76 (fun H locs hP hD hS => ?_)
  refine lv_aload_n hx hb zd_Machine_computeWithImmediate_79 rfl (lv_at hl 0 rfl) ?_
  refine xx_get C ki_Machine hK hP 4 rfl rfl 4 (by decide) kw_56 rfl rfl zd_Machine_computeWithImmediate_80 ?_
  refine lv_iconst (v := (4 : Int32)) hx hb zd_Machine_computeWithImmediate_83 (by decide) ?_
  refine lv_iadd hx hb zd_Machine_computeWithImmediate_84 ?_
  obtain ⟨v6, u5, eu5, hF⟩ := xx_b2_some hF
  refine xx_callV (n := 3) (As := [.int y1, .int v4, .int ((u3.1 3) + (4 : Int32))]) (rest := []) C (zc_Machine_finish l g u3 y1 v4 ((u3.1 3) + (4 : Int32)) v6 u5 eu5) ⟨kw_754, kw_751, kw_753, ks_Machine_finish, kw_3⟩ ⟨by decide +kernel, by decide +kernel, by decide +kernel⟩ rfl ⟨Nat.le_of_ble_eq_true rfl, Nat.le_of_ble_eq_true rfl⟩ 4 rfl rfl hl.1 rfl (Nat.le_of_ble_eq_true rfl) hA hK hP hD hS ⟨Nat.le_refl _, Nat.le_refl _⟩ rfl rfl rfl zd_Machine_computeWithImmediate_85 (fun H locs hP hD hS => ?_)
  exact xx_iret C hF hK hP hD hS zd_Machine_computeWithImmediate_88
set_option maxHeartbeats 4000000 in
set_option maxRecDepth 100000 in
theorem zw_Machine_computeWithImmediate_b54 {p : Program} {l : Launch} {e : Env} {s : State} {m : MethodId} {args : Array Value} {below : List Frame} {meth : Method} {c : Code} {A : Nat → Prop} {g : xx_G} {r : Int32} {u9 : zz_S} (C : xx_C p s m args meth c kb_Machine_computeWithImmediate 5 kr_Machine (some .int)) (hA : ∀ q, s.heap.size ≤ q → A q) (hK : va_K g.1 xx_cls (zz_T g) s) : ∀ (u : zz_S) (x1 : Int32) (x2 : Int32) (x4 : Int32) (H : Heap) (locs : List Loc) (ls : Array Slot), zf_Machine_computeWithImmediate_b54 u x1 x2 x4 = some (r, u9) → lv_has ls 5 [(0, .ref (g.2.1 4)), (1, .int x1), (2, .int x2), (4, .int x4)] → va_P g.1 xx_cls (zz_W g u) H → va_D A (zz_W g u) → va_S A s.heap H locs → W p l e (xx_rm 2 44) s m args below meth c H locs 0 0 (MQ below (xx_Q g.1 (zz_T g) (zz_W g) (some (.int r)) u9 A) args s 0 0 A) (F0 m 54 ls []) := by
  have hx := C.1
  have hb := C.2.1
  have hown := C.2.2.2.1
  have hts := C.2.2.2.2.1
  intro u x1 x2 x4 H locs ls hF hl hP hD hS
  unfold zf_Machine_computeWithImmediate_b54 at hF
  refine lv_aload_n hx hb zd_Machine_computeWithImmediate_54 rfl (lv_at hl 0 rfl) ?_
  refine lv_iload_n hx hb zd_Machine_computeWithImmediate_55 rfl (lv_at hl 1 rfl) ?_
  refine lv_iload_n hx hb zd_Machine_computeWithImmediate_56 rfl (lv_at hl 2 rfl) ?_
  refine lv_iload hx hb zd_Machine_computeWithImmediate_57 (lv_at hl 3 rfl) ?_
  refine lv_if_eq (tgt := 66) hx hb zd_Machine_computeWithImmediate_59 (by decide) (fun hc => ?_) (fun hc => ?_)
  · have hF := xx_ip hc hF
    refine lv_iconst (v := (0 : Int32)) hx hb zd_Machine_computeWithImmediate_66 (by decide) ?_
    exact zw_Machine_computeWithImmediate_b67 C hA hK  u x1 x1 x2 (0 : Int32) _ _ _ hF (lv_sub hl [0, 1] rfl) hP hD hS
  · have hF := xx_in' hc hF
    refine lv_iconst (v := (1 : Int32)) hx hb zd_Machine_computeWithImmediate_62 (by decide) ?_
    refine lv_goto (tgt := 67) hx hb zd_Machine_computeWithImmediate_63 (by decide) ?_
    exact zw_Machine_computeWithImmediate_b67 C hA hK  u x1 x1 x2 (1 : Int32) _ _ _ hF (lv_sub hl [0, 1] rfl) hP hD hS
set_option maxHeartbeats 4000000 in
set_option maxRecDepth 100000 in
theorem zw_Machine_computeWithImmediate_b33 {p : Program} {l : Launch} {e : Env} {s : State} {m : MethodId} {args : Array Value} {below : List Frame} {meth : Method} {c : Code} {A : Nat → Prop} {g : xx_G} {r : Int32} {u9 : zz_S} (C : xx_C p s m args meth c kb_Machine_computeWithImmediate 5 kr_Machine (some .int)) (hA : ∀ q, s.heap.size ≤ q → A q) (hK : va_K g.1 xx_cls (zz_T g) s) : ∀ (u : zz_S) (x1 : Int32) (x2 : Int32) (y0 : Int32) (H : Heap) (locs : List Loc) (ls : Array Slot), zf_Machine_computeWithImmediate_b33 u x1 x2 y0 = some (r, u9) → lv_has ls 5 [(0, .ref (g.2.1 4)), (1, .int x1), (2, .int x2)] → va_P g.1 xx_cls (zz_W g u) H → va_D A (zz_W g u) → va_S A s.heap H locs → W p l e (xx_rm 2 44) s m args below meth c H locs 0 0 (MQ below (xx_Q g.1 (zz_T g) (zz_W g) (some (.int r)) u9 A) args s 0 0 A) (F0 m 33 ls [.int y0]) := by
  have hx := C.1
  have hb := C.2.1
  have hown := C.2.2.2.1
  have hts := C.2.2.2.2.1
  intro u x1 x2 y0 H locs ls hF hl hP hD hS
  unfold zf_Machine_computeWithImmediate_b33 at hF
  refine lv_istore hx hb zd_Machine_computeWithImmediate_33 hl (by decide) rfl (fun ls hl => ?_)
  refine lv_iload hx hb zd_Machine_computeWithImmediate_35 (lv_at hl 0 rfl) ?_
  refine lv_if_eq (tgt := 54) hx hb zd_Machine_computeWithImmediate_37 (by decide) (fun hc => ?_) (fun hc => ?_)
  · have hF := xx_ip hc hF
    exact zw_Machine_computeWithImmediate_b54 C hA hK  u x1 x2 y0 _ _ _ hF (lv_sub hl [1, 2, 3, 0] rfl) hP hD hS
  · have hF := xx_in' hc hF
    refine lv_iload hx hb zd_Machine_computeWithImmediate_40 (lv_at hl 0 rfl) ?_
    refine lv_bipush (v := (32 : Int32)) hx hb zd_Machine_computeWithImmediate_42 (by decide) ?_
    refine lv_icmp_ne (tgt := 52) hx hb zd_Machine_computeWithImmediate_44 (by decide) (fun hc => ?_) (fun hc => ?_)
    · have hF := xx_in' hc hF
      exact zw_Machine_computeWithImmediate_b52 C hA hK  u _ _ _ hF (lv_sub hl [] rfl) hP hD hS
    · have hF := xx_ip hc hF
      refine lv_iload_n hx hb zd_Machine_computeWithImmediate_47 rfl (lv_at hl 3 rfl) ?_
      refine lv_iconst (v := (5 : Int32)) hx hb zd_Machine_computeWithImmediate_48 (by decide) ?_
      refine lv_icmp_eq (tgt := 54) hx hb zd_Machine_computeWithImmediate_49 (by decide) (fun hc => ?_) (fun hc => ?_)
      · have hF := xx_ip hc hF
        exact zw_Machine_computeWithImmediate_b54 C hA hK  u x1 x2 y0 _ _ _ hF (lv_sub hl [1, 2, 3, 0] rfl) hP hD hS
      · have hF := xx_in' hc hF
        exact zw_Machine_computeWithImmediate_b52 C hA hK  u _ _ _ hF (lv_sub hl [] rfl) hP hD hS
set_option maxHeartbeats 4000000 in
set_option maxRecDepth 100000 in
theorem zw_Machine_computeWithImmediate_b20 {p : Program} {l : Launch} {e : Env} {s : State} {m : MethodId} {args : Array Value} {below : List Frame} {meth : Method} {c : Code} {A : Nat → Prop} {g : xx_G} {r : Int32} {u9 : zz_S} (C : xx_C p s m args meth c kb_Machine_computeWithImmediate 5 kr_Machine (some .int)) (hA : ∀ q, s.heap.size ≤ q → A q) (hK : va_K g.1 xx_cls (zz_T g) s) : ∀ (u : zz_S) (x1 : Int32) (x2 : Int32) (y0 : Int32) (H : Heap) (locs : List Loc) (ls : Array Slot), zf_Machine_computeWithImmediate_b20 u x1 x2 y0 = some (r, u9) → lv_has ls 5 [(0, .ref (g.2.1 4)), (1, .int x1), (2, .int x2)] → va_P g.1 xx_cls (zz_W g u) H → va_D A (zz_W g u) → va_S A s.heap H locs → W p l e (xx_rm 2 44) s m args below meth c H locs 0 0 (MQ below (xx_Q g.1 (zz_T g) (zz_W g) (some (.int r)) u9 A) args s 0 0 A) (F0 m 20 ls [.int y0]) := by
  have hx := C.1
  have hb := C.2.1
  have hown := C.2.2.2.1
  have hts := C.2.2.2.2.1
  intro u x1 x2 y0 H locs ls hF hl hP hD hS
  unfold zf_Machine_computeWithImmediate_b20 at hF
  refine lv_istore_n hx hb zd_Machine_computeWithImmediate_20 rfl hl (by decide) rfl (fun ls hl => ?_)
  refine lv_iload_n hx hb zd_Machine_computeWithImmediate_21 rfl (lv_at hl 0 rfl) ?_
  refine lv_if_eq (tgt := 32) hx hb zd_Machine_computeWithImmediate_22 (by decide) (fun hc => ?_) (fun hc => ?_)
  · have hF := xx_ip hc hF
    refine lv_iconst (v := (0 : Int32)) hx hb zd_Machine_computeWithImmediate_32 (by decide) ?_
    exact zw_Machine_computeWithImmediate_b33 C hA hK  u x1 x2 (0 : Int32) _ _ _ hF (lv_sub hl [1, 2, 3] rfl) hP hD hS
  · have hF := xx_in' hc hF
    refine lv_iload_n hx hb zd_Machine_computeWithImmediate_25 rfl (lv_at hl 2 rfl) ?_
    refine lv_bipush (v := (25 : Int32)) hx hb zd_Machine_computeWithImmediate_26 (by decide) ?_
    refine lv_iushr hx hb zd_Machine_computeWithImmediate_28 (xx_ush_eq x1 (25 : Int32)) ?_
    refine lv_goto (tgt := 33) hx hb zd_Machine_computeWithImmediate_29 (by decide) ?_
    exact zw_Machine_computeWithImmediate_b33 C hA hK  u x1 x2 (xx_ush x1 (25 : Int32)) _ _ _ hF (lv_sub hl [1, 2, 3] rfl) hP hD hS
set_option maxHeartbeats 4000000 in
set_option maxRecDepth 100000 in
theorem zw_Machine_computeWithImmediate_b15 {p : Program} {l : Launch} {e : Env} {s : State} {m : MethodId} {args : Array Value} {below : List Frame} {meth : Method} {c : Code} {A : Nat → Prop} {g : xx_G} {r : Int32} {u9 : zz_S} (C : xx_C p s m args meth c kb_Machine_computeWithImmediate 5 kr_Machine (some .int)) (hA : ∀ q, s.heap.size ≤ q → A q) (hK : va_K g.1 xx_cls (zz_T g) s) : ∀ (u : zz_S) (x1 : Int32) (x2 : Int32) (H : Heap) (locs : List Loc) (ls : Array Slot), zf_Machine_computeWithImmediate_b15 u x1 x2 = some (r, u9) → lv_has ls 5 [(0, .ref (g.2.1 4)), (1, .int x1), (2, .int x2)] → va_P g.1 xx_cls (zz_W g u) H → va_D A (zz_W g u) → va_S A s.heap H locs → W p l e (xx_rm 2 44) s m args below meth c H locs 0 0 (MQ below (xx_Q g.1 (zz_T g) (zz_W g) (some (.int r)) u9 A) args s 0 0 A) (F0 m 15 ls []) := by
  have hx := C.1
  have hb := C.2.1
  have hown := C.2.2.2.1
  have hts := C.2.2.2.2.1
  intro u x1 x2 H locs ls hF hl hP hD hS
  unfold zf_Machine_computeWithImmediate_b15 at hF
  refine lv_iconst (v := (1 : Int32)) hx hb zd_Machine_computeWithImmediate_15 (by decide) ?_
  refine lv_goto (tgt := 20) hx hb zd_Machine_computeWithImmediate_16 (by decide) ?_
  exact zw_Machine_computeWithImmediate_b20 C hA hK  u x1 x2 (1 : Int32) _ _ _ hF (lv_sub hl [0, 1, 2] rfl) hP hD hS
set_option maxHeartbeats 4000000 in
set_option maxRecDepth 100000 in
theorem zc_Machine_computeWithImmediate (l : Launch) (g : xx_G) (u : zz_S) (x1 : Int32) (r : Int32) (u9 : zz_S) (hF : zf_Machine_computeWithImmediate u x1 = some (r, u9)) : xx_M l g.1 (zz_T g) (zz_W g) ky_Machine_computeWithImmediate kb_Machine_computeWithImmediate 5 (some .int) (xx_rm 2 44) [.ref (g.2.1 4), .int x1] u (some (.int r)) u9 := by
  refine xx_body (by decide) (Nat.le_of_ble_eq_true rfl) ?_
  intro p e s m args below meth c A ls C hin hK hl hA hP hD hS
  have hx := C.1
  have hb := C.2.1
  have hown := C.2.2.2.1
  have hts := C.2.2.2.2.1
  have hl : lv_has ls 5 [(0, .ref (g.2.1 4)), (1, .int x1)] := hl
  unfold zf_Machine_computeWithImmediate at hF
  refine lv_iload_n hx hb zd_Machine_computeWithImmediate_0 rfl (lv_at hl 1 rfl) ?_
  obtain ⟨v2, u1, eu1, hF⟩ := xx_b2_some hF
  refine xx_callS (n := 1) (As := [.int x1]) (rest := []) C (zc_Machine_kindOf l g u x1 v2 u1 eu1) ⟨kw_765, kw_763, kw_764, kw_3⟩ ⟨by decide +kernel, by decide +kernel, by decide +kernel⟩ rfl ⟨Nat.le_of_ble_eq_true rfl, Nat.le_of_ble_eq_true rfl⟩ hl.1 rfl (Nat.le_of_ble_eq_true rfl) hA hK hP hD hS ⟨Nat.le_refl _, Nat.le_refl _⟩ rfl rfl rfl zd_Machine_computeWithImmediate_1 (fun H locs hP hD hS => ?_)
  refine lv_istore_n hx hb zd_Machine_computeWithImmediate_4 rfl hl (by decide) rfl (fun ls hl => ?_)
  refine lv_iload_n hx hb zd_Machine_computeWithImmediate_5 rfl (lv_at hl 0 rfl) ?_
  refine lv_iconst (v := (1 : Int32)) hx hb zd_Machine_computeWithImmediate_6 (by decide) ?_
  refine lv_icmp_eq (tgt := 15) hx hb zd_Machine_computeWithImmediate_7 (by decide) (fun hc => ?_) (fun hc => ?_)
  · have hF := xx_ip hc hF
    exact zw_Machine_computeWithImmediate_b15 C hA hK  u1 x1 v2 _ _ _ hF (lv_sub hl [1, 2, 0] rfl) hP hD hS
  · have hF := xx_in' hc hF
    refine lv_iload_n hx hb zd_Machine_computeWithImmediate_10 rfl (lv_at hl 0 rfl) ?_
    refine lv_iconst (v := (5 : Int32)) hx hb zd_Machine_computeWithImmediate_11 (by decide) ?_
    refine lv_icmp_ne (tgt := 19) hx hb zd_Machine_computeWithImmediate_12 (by decide) (fun hc => ?_) (fun hc => ?_)
    · have hF := xx_in' hc hF
      refine lv_iconst (v := (0 : Int32)) hx hb zd_Machine_computeWithImmediate_19 (by decide) ?_
      exact zw_Machine_computeWithImmediate_b20 C hA hK  u1 x1 v2 (0 : Int32) _ _ _ hF (lv_sub hl [1, 2, 0] rfl) hP hD hS
    · have hF := xx_ip hc hF
      exact zw_Machine_computeWithImmediate_b15 C hA hK  u1 x1 v2 _ _ _ hF (lv_sub hl [1, 2, 0] rfl) hP hD hS
theorem zd_Machine_computeWithRegister_0 : decode kb_Machine_computeWithRegister 0 = .ok (.iload_n 1, 1) := by decide +kernel
theorem zd_Machine_computeWithRegister_1 : decode kb_Machine_computeWithRegister 1 = .ok (.invokestatic 73, 3) := by decide +kernel
theorem zd_Machine_computeWithRegister_4 : decode kb_Machine_computeWithRegister 4 = .ok (.istore_n 2, 1) := by decide +kernel
theorem zd_Machine_computeWithRegister_5 : decode kb_Machine_computeWithRegister 5 = .ok (.iload_n 1, 1) := by decide +kernel
theorem zd_Machine_computeWithRegister_6 : decode kb_Machine_computeWithRegister 6 = .ok (.bipush (25), 2) := by decide +kernel
theorem zd_Machine_computeWithRegister_8 : decode kb_Machine_computeWithRegister 8 = .ok (.iushr, 1) := by decide +kernel
theorem zd_Machine_computeWithRegister_9 : decode kb_Machine_computeWithRegister 9 = .ok (.istore_n 3, 1) := by decide +kernel
theorem zd_Machine_computeWithRegister_10 : decode kb_Machine_computeWithRegister 10 = .ok (.iload_n 3, 1) := by decide +kernel
theorem zd_Machine_computeWithRegister_11 : decode kb_Machine_computeWithRegister 11 = .ok (.ifCond .eq (20), 3) := by decide +kernel
theorem zd_Machine_computeWithRegister_14 : decode kb_Machine_computeWithRegister 14 = .ok (.iload_n 3, 1) := by decide +kernel
theorem zd_Machine_computeWithRegister_15 : decode kb_Machine_computeWithRegister 15 = .ok (.bipush (32), 2) := by decide +kernel
theorem zd_Machine_computeWithRegister_17 : decode kb_Machine_computeWithRegister 17 = .ok (.if_icmp .ne (12), 3) := by decide +kernel
theorem zd_Machine_computeWithRegister_20 : decode kb_Machine_computeWithRegister 20 = .ok (.iload_n 2, 1) := by decide +kernel
theorem zd_Machine_computeWithRegister_21 : decode kb_Machine_computeWithRegister 21 = .ok (.ifCond .eq (10), 3) := by decide +kernel
theorem zd_Machine_computeWithRegister_24 : decode kb_Machine_computeWithRegister 24 = .ok (.iload_n 2, 1) := by decide +kernel
theorem zd_Machine_computeWithRegister_25 : decode kb_Machine_computeWithRegister 25 = .ok (.iconst 5, 1) := by decide +kernel
theorem zd_Machine_computeWithRegister_26 : decode kb_Machine_computeWithRegister 26 = .ok (.if_icmp .eq (5), 3) := by decide +kernel
theorem zd_Machine_computeWithRegister_29 : decode kb_Machine_computeWithRegister 29 = .ok (.iconst 3, 1) := by decide +kernel
theorem zd_Machine_computeWithRegister_30 : decode kb_Machine_computeWithRegister 30 = .ok (.ireturn, 1) := by decide +kernel
theorem zd_Machine_computeWithRegister_31 : decode kb_Machine_computeWithRegister 31 = .ok (.aload_n 0, 1) := by decide +kernel
theorem zd_Machine_computeWithRegister_32 : decode kb_Machine_computeWithRegister 32 = .ok (.iload_n 1, 1) := by decide +kernel
theorem zd_Machine_computeWithRegister_33 : decode kb_Machine_computeWithRegister 33 = .ok (.iload_n 2, 1) := by decide +kernel
theorem zd_Machine_computeWithRegister_34 : decode kb_Machine_computeWithRegister 34 = .ok (.iload_n 3, 1) := by decide +kernel
theorem zd_Machine_computeWithRegister_35 : decode kb_Machine_computeWithRegister 35 = .ok (.ifCond .eq (7), 3) := by decide +kernel
theorem zd_Machine_computeWithRegister_38 : decode kb_Machine_computeWithRegister 38 = .ok (.iconst 1, 1) := by decide +kernel
theorem zd_Machine_computeWithRegister_39 : decode kb_Machine_computeWithRegister 39 = .ok (.goto (4), 3) := by decide +kernel
theorem zd_Machine_computeWithRegister_42 : decode kb_Machine_computeWithRegister 42 = .ok (.iconst 0, 1) := by decide +kernel
theorem zd_Machine_computeWithRegister_43 : decode kb_Machine_computeWithRegister 43 = .ok (.aload_n 0, 1) := by decide +kernel
theorem zd_Machine_computeWithRegister_44 : decode kb_Machine_computeWithRegister 44 = .ok (.iload_n 1, 1) := by decide +kernel
theorem zd_Machine_computeWithRegister_45 : decode kb_Machine_computeWithRegister 45 = .ok (.invokevirtual 76, 3) := by decide +kernel
theorem zd_Machine_computeWithRegister_48 : decode kb_Machine_computeWithRegister 48 = .ok (.aload_n 0, 1) := by decide +kernel
theorem zd_Machine_computeWithRegister_49 : decode kb_Machine_computeWithRegister 49 = .ok (.iload_n 1, 1) := by decide +kernel
theorem zd_Machine_computeWithRegister_50 : decode kb_Machine_computeWithRegister 50 = .ok (.invokevirtual 79, 3) := by decide +kernel
theorem zd_Machine_computeWithRegister_53 : decode kb_Machine_computeWithRegister 53 = .ok (.invokestatic 108, 3) := by decide +kernel
theorem zd_Machine_computeWithRegister_56 : decode kb_Machine_computeWithRegister 56 = .ok (.aload_n 0, 1) := by decide +kernel
theorem zd_Machine_computeWithRegister_57 : decode kb_Machine_computeWithRegister 57 = .ok (.getfield 25, 3) := by decide +kernel
theorem zd_Machine_computeWithRegister_60 : decode kb_Machine_computeWithRegister 60 = .ok (.iconst 4, 1) := by decide +kernel
theorem zd_Machine_computeWithRegister_61 : decode kb_Machine_computeWithRegister 61 = .ok (.iadd, 1) := by decide +kernel
theorem zd_Machine_computeWithRegister_62 : decode kb_Machine_computeWithRegister 62 = .ok (.invokevirtual 47, 3) := by decide +kernel
theorem zd_Machine_computeWithRegister_65 : decode kb_Machine_computeWithRegister 65 = .ok (.ireturn, 1) := by decide +kernel
def zf_Machine_computeWithRegister_b29 (u : zz_S) : Option (Int32 × zz_S) := some ((3 : Int32), u)
def zf_Machine_computeWithRegister_b43 (u : zz_S) (x1 : Int32) (y1 : Int32) (y2 : Int32) (y3 : Int32) : Option (Int32 × zz_S) := xx_b2 (zf_Machine_firstOf u x1) fun v2 u1 => xx_b2 (zf_Machine_secondOf u1 x1) fun v4 u3 => xx_b2 (zf_Machine_computed u3 y2 y3 v2 v4) fun v6 u5 => xx_b2 (zf_Machine_finish u5 y1 v6 ((u5.1 3) + (4 : Int32))) fun v8 u7 => some (v8, u7)
def zf_Machine_computeWithRegister_b31 (u : zz_S) (x1 : Int32) (x2 : Int32) (x3 : Int32) : Option (Int32 × zz_S) := if x3 = 0 then (zf_Machine_computeWithRegister_b43 u x1 x1 x2 (0 : Int32)) else (zf_Machine_computeWithRegister_b43 u x1 x1 x2 (1 : Int32))
def zf_Machine_computeWithRegister (u : zz_S) (x1 : Int32) : Option (Int32 × zz_S) := xx_b2 (zf_Machine_kindOf u x1) fun v2 u1 => xx_nm (xx_ush x1 (25 : Int32)) fun v3 => if v3 = 0 then (zf_Machine_computeWithRegister_b31 u1 x1 v2 v3) else (if v3 = (32 : Int32) then (if v2 = 0 then (zf_Machine_computeWithRegister_b31 u1 x1 v2 v3) else (if v2 = (5 : Int32) then (zf_Machine_computeWithRegister_b31 u1 x1 v2 v3) else (zf_Machine_computeWithRegister_b29 u1))) else (zf_Machine_computeWithRegister_b29 u1))
set_option maxHeartbeats 4000000 in
set_option maxRecDepth 100000 in
theorem zw_Machine_computeWithRegister_b29 {p : Program} {l : Launch} {e : Env} {s : State} {m : MethodId} {args : Array Value} {below : List Frame} {meth : Method} {c : Code} {A : Nat → Prop} {g : xx_G} {r : Int32} {u9 : zz_S} (C : xx_C p s m args meth c kb_Machine_computeWithRegister 4 kr_Machine (some .int)) (hA : ∀ q, s.heap.size ≤ q → A q) (hK : va_K g.1 xx_cls (zz_T g) s) : ∀ (u : zz_S) (H : Heap) (locs : List Loc) (ls : Array Slot), zf_Machine_computeWithRegister_b29 u = some (r, u9) → lv_has ls 4 [] → va_P g.1 xx_cls (zz_W g u) H → va_D A (zz_W g u) → va_S A s.heap H locs → W p l e (xx_rm 2 44) s m args below meth c H locs 0 0 (MQ below (xx_Q g.1 (zz_T g) (zz_W g) (some (.int r)) u9 A) args s 0 0 A) (F0 m 29 ls []) := by
  have hx := C.1
  have hb := C.2.1
  have hown := C.2.2.2.1
  have hts := C.2.2.2.2.1
  intro u H locs ls hF hl hP hD hS
  unfold zf_Machine_computeWithRegister_b29 at hF
  refine lv_iconst (v := (3 : Int32)) hx hb zd_Machine_computeWithRegister_29 (by decide) ?_
  exact xx_iret C hF hK hP hD hS zd_Machine_computeWithRegister_30
set_option maxHeartbeats 4000000 in
set_option maxRecDepth 100000 in
theorem zw_Machine_computeWithRegister_b43 {p : Program} {l : Launch} {e : Env} {s : State} {m : MethodId} {args : Array Value} {below : List Frame} {meth : Method} {c : Code} {A : Nat → Prop} {g : xx_G} {r : Int32} {u9 : zz_S} (C : xx_C p s m args meth c kb_Machine_computeWithRegister 4 kr_Machine (some .int)) (hA : ∀ q, s.heap.size ≤ q → A q) (hK : va_K g.1 xx_cls (zz_T g) s) : ∀ (u : zz_S) (x1 : Int32) (y1 : Int32) (y2 : Int32) (y3 : Int32) (H : Heap) (locs : List Loc) (ls : Array Slot), zf_Machine_computeWithRegister_b43 u x1 y1 y2 y3 = some (r, u9) → lv_has ls 4 [(0, .ref (g.2.1 4)), (1, .int x1)] → va_P g.1 xx_cls (zz_W g u) H → va_D A (zz_W g u) → va_S A s.heap H locs → W p l e (xx_rm 2 44) s m args below meth c H locs 0 0 (MQ below (xx_Q g.1 (zz_T g) (zz_W g) (some (.int r)) u9 A) args s 0 0 A) (F0 m 43 ls [.int y3, .int y2, .int y1, .ref (g.2.1 4)]) := by
  have hx := C.1
  have hb := C.2.1
  have hown := C.2.2.2.1
  have hts := C.2.2.2.2.1
  intro u x1 y1 y2 y3 H locs ls hF hl hP hD hS
  unfold zf_Machine_computeWithRegister_b43 at hF
  refine lv_aload_n hx hb zd_Machine_computeWithRegister_43 rfl (lv_at hl 0 rfl) ?_
  refine lv_iload_n hx hb zd_Machine_computeWithRegister_44 rfl (lv_at hl 1 rfl) ?_
  obtain ⟨v2, u1, eu1, hF⟩ := xx_b2_some hF
  refine xx_callV (n := 1) (As := [.int x1]) (rest := [.int y3, .int y2, .int y1, .ref (g.2.1 4)]) C (zc_Machine_firstOf l g u x1 v2 u1 eu1) ⟨kw_769, kw_766, kw_768, ks_Machine_firstOf, kw_3⟩ ⟨by decide +kernel, by decide +kernel, by decide +kernel⟩ rfl ⟨Nat.le_of_ble_eq_true rfl, Nat.le_of_ble_eq_true rfl⟩ 4 rfl rfl hl.1 rfl (Nat.le_of_ble_eq_true rfl) hA hK hP hD hS ⟨Nat.le_refl _, Nat.le_refl _⟩ rfl rfl rfl zd_Machine_computeWithRegister_45 (fun H locs hP hD hS => ?_)
  refine lv_aload_n hx hb zd_Machine_computeWithRegister_48 rfl (lv_at hl 0 rfl) ?_
  refine lv_iload_n hx hb zd_Machine_computeWithRegister_49 rfl (lv_at hl 1 rfl) ?_
  obtain ⟨v4, u3, eu3, hF⟩ := xx_b2_some hF
  refine xx_callV (n := 1) (As := [.int x1]) (rest := [.int v2, .int y3, .int y2, .int y1, .ref (g.2.1 4)]) C (zc_Machine_secondOf l g u1 x1 v4 u3 eu3) ⟨kw_777, kw_774, kw_776, ks_Machine_secondOf, kw_3⟩ ⟨by decide +kernel, by decide +kernel, by decide +kernel⟩ rfl ⟨Nat.le_of_ble_eq_true rfl, Nat.le_of_ble_eq_true rfl⟩ 4 rfl rfl hl.1 rfl (Nat.le_of_ble_eq_true rfl) hA hK hP hD hS ⟨Nat.le_refl _, Nat.le_refl _⟩ rfl rfl rfl zd_Machine_computeWithRegister_50 (fun H locs hP hD hS => ?_)
  obtain ⟨v6, u5, eu5, hF⟩ := xx_b2_some hF
  refine xx_callS (n := 4) (As := [.int y2, .int y3, .int v2, .int v4]) (rest := [.int y1, .ref (g.2.1 4)]) C (zc_Machine_computed l g u3 y2 y3 v2 v4 v6 u5 eu5) ⟨kw_821, kw_819, kw_820, kw_3⟩ ⟨by decide +kernel, by decide +kernel, by decide +kernel⟩ rfl ⟨Nat.le_of_ble_eq_true rfl, Nat.le_of_ble_eq_true rfl⟩ hl.1 rfl (Nat.le_of_ble_eq_true rfl) hA hK hP hD hS ⟨Nat.le_refl _, Nat.le_refl _⟩ rfl rfl rfl zd_Machine_computeWithRegister_53 (fun H locs hP hD hS => ?_)
  refine lv_aload_n hx hb zd_Machine_computeWithRegister_56 rfl (lv_at hl 0 rfl) ?_
  refine xx_get C ki_Machine hK hP 4 rfl rfl 4 (by decide) kw_56 rfl rfl zd_Machine_computeWithRegister_57 ?_
  refine lv_iconst (v := (4 : Int32)) hx hb zd_Machine_computeWithRegister_60 (by decide) ?_
  refine lv_iadd hx hb zd_Machine_computeWithRegister_61 ?_
  obtain ⟨v8, u7, eu7, hF⟩ := xx_b2_some hF
  refine xx_callV (n := 3) (As := [.int y1, .int v6, .int ((u5.1 3) + (4 : Int32))]) (rest := []) C (zc_Machine_finish l g u5 y1 v6 ((u5.1 3) + (4 : Int32)) v8 u7 eu7) ⟨kw_754, kw_751, kw_753, ks_Machine_finish, kw_3⟩ ⟨by decide +kernel, by decide +kernel, by decide +kernel⟩ rfl ⟨Nat.le_of_ble_eq_true rfl, Nat.le_of_ble_eq_true rfl⟩ 4 rfl rfl hl.1 rfl (Nat.le_of_ble_eq_true rfl) hA hK hP hD hS ⟨Nat.le_refl _, Nat.le_refl _⟩ rfl rfl rfl zd_Machine_computeWithRegister_62 (fun H locs hP hD hS => ?_)
  exact xx_iret C hF hK hP hD hS zd_Machine_computeWithRegister_65
set_option maxHeartbeats 4000000 in
set_option maxRecDepth 100000 in
theorem zw_Machine_computeWithRegister_b31 {p : Program} {l : Launch} {e : Env} {s : State} {m : MethodId} {args : Array Value} {below : List Frame} {meth : Method} {c : Code} {A : Nat → Prop} {g : xx_G} {r : Int32} {u9 : zz_S} (C : xx_C p s m args meth c kb_Machine_computeWithRegister 4 kr_Machine (some .int)) (hA : ∀ q, s.heap.size ≤ q → A q) (hK : va_K g.1 xx_cls (zz_T g) s) : ∀ (u : zz_S) (x1 : Int32) (x2 : Int32) (x3 : Int32) (H : Heap) (locs : List Loc) (ls : Array Slot), zf_Machine_computeWithRegister_b31 u x1 x2 x3 = some (r, u9) → lv_has ls 4 [(0, .ref (g.2.1 4)), (1, .int x1), (2, .int x2), (3, .int x3)] → va_P g.1 xx_cls (zz_W g u) H → va_D A (zz_W g u) → va_S A s.heap H locs → W p l e (xx_rm 2 44) s m args below meth c H locs 0 0 (MQ below (xx_Q g.1 (zz_T g) (zz_W g) (some (.int r)) u9 A) args s 0 0 A) (F0 m 31 ls []) := by
  have hx := C.1
  have hb := C.2.1
  have hown := C.2.2.2.1
  have hts := C.2.2.2.2.1
  intro u x1 x2 x3 H locs ls hF hl hP hD hS
  unfold zf_Machine_computeWithRegister_b31 at hF
  refine lv_aload_n hx hb zd_Machine_computeWithRegister_31 rfl (lv_at hl 0 rfl) ?_
  refine lv_iload_n hx hb zd_Machine_computeWithRegister_32 rfl (lv_at hl 1 rfl) ?_
  refine lv_iload_n hx hb zd_Machine_computeWithRegister_33 rfl (lv_at hl 2 rfl) ?_
  refine lv_iload_n hx hb zd_Machine_computeWithRegister_34 rfl (lv_at hl 3 rfl) ?_
  refine lv_if_eq (tgt := 42) hx hb zd_Machine_computeWithRegister_35 (by decide) (fun hc => ?_) (fun hc => ?_)
  · have hF := xx_ip hc hF
    refine lv_iconst (v := (0 : Int32)) hx hb zd_Machine_computeWithRegister_42 (by decide) ?_
    exact zw_Machine_computeWithRegister_b43 C hA hK  u x1 x1 x2 (0 : Int32) _ _ _ hF (lv_sub hl [0, 1] rfl) hP hD hS
  · have hF := xx_in' hc hF
    refine lv_iconst (v := (1 : Int32)) hx hb zd_Machine_computeWithRegister_38 (by decide) ?_
    refine lv_goto (tgt := 43) hx hb zd_Machine_computeWithRegister_39 (by decide) ?_
    exact zw_Machine_computeWithRegister_b43 C hA hK  u x1 x1 x2 (1 : Int32) _ _ _ hF (lv_sub hl [0, 1] rfl) hP hD hS
set_option maxHeartbeats 4000000 in
set_option maxRecDepth 100000 in
theorem zc_Machine_computeWithRegister (l : Launch) (g : xx_G) (u : zz_S) (x1 : Int32) (r : Int32) (u9 : zz_S) (hF : zf_Machine_computeWithRegister u x1 = some (r, u9)) : xx_M l g.1 (zz_T g) (zz_W g) ky_Machine_computeWithRegister kb_Machine_computeWithRegister 4 (some .int) (xx_rm 2 44) [.ref (g.2.1 4), .int x1] u (some (.int r)) u9 := by
  refine xx_body (by decide) (Nat.le_of_ble_eq_true rfl) ?_
  intro p e s m args below meth c A ls C hin hK hl hA hP hD hS
  have hx := C.1
  have hb := C.2.1
  have hown := C.2.2.2.1
  have hts := C.2.2.2.2.1
  have hl : lv_has ls 4 [(0, .ref (g.2.1 4)), (1, .int x1)] := hl
  unfold zf_Machine_computeWithRegister at hF
  refine lv_iload_n hx hb zd_Machine_computeWithRegister_0 rfl (lv_at hl 1 rfl) ?_
  obtain ⟨v2, u1, eu1, hF⟩ := xx_b2_some hF
  refine xx_callS (n := 1) (As := [.int x1]) (rest := []) C (zc_Machine_kindOf l g u x1 v2 u1 eu1) ⟨kw_765, kw_763, kw_764, kw_3⟩ ⟨by decide +kernel, by decide +kernel, by decide +kernel⟩ rfl ⟨Nat.le_of_ble_eq_true rfl, Nat.le_of_ble_eq_true rfl⟩ hl.1 rfl (Nat.le_of_ble_eq_true rfl) hA hK hP hD hS ⟨Nat.le_refl _, Nat.le_refl _⟩ rfl rfl rfl zd_Machine_computeWithRegister_1 (fun H locs hP hD hS => ?_)
  refine lv_istore_n hx hb zd_Machine_computeWithRegister_4 rfl hl (by decide) rfl (fun ls hl => ?_)
  refine lv_iload_n hx hb zd_Machine_computeWithRegister_5 rfl (lv_at hl 2 rfl) ?_
  refine lv_bipush (v := (25 : Int32)) hx hb zd_Machine_computeWithRegister_6 (by decide) ?_
  refine lv_iushr hx hb zd_Machine_computeWithRegister_8 (xx_ush_eq x1 (25 : Int32)) ?_
  obtain ⟨v3, ev3, hF⟩ := xx_nm_some hF
  refine xx_topi ev3 ?_
  refine lv_istore_n hx hb zd_Machine_computeWithRegister_9 rfl hl (by decide) rfl (fun ls hl => ?_)
  refine lv_iload_n hx hb zd_Machine_computeWithRegister_10 rfl (lv_at hl 0 rfl) ?_
  refine lv_if_eq (tgt := 31) hx hb zd_Machine_computeWithRegister_11 (by decide) (fun hc => ?_) (fun hc => ?_)
  · have hF := xx_ip hc hF
    exact zw_Machine_computeWithRegister_b31 C hA hK  u1 x1 v2 v3 _ _ _ hF (lv_sub hl [2, 3, 1, 0] rfl) hP hD hS
  · have hF := xx_in' hc hF
    refine lv_iload_n hx hb zd_Machine_computeWithRegister_14 rfl (lv_at hl 0 rfl) ?_
    refine lv_bipush (v := (32 : Int32)) hx hb zd_Machine_computeWithRegister_15 (by decide) ?_
    refine lv_icmp_ne (tgt := 29) hx hb zd_Machine_computeWithRegister_17 (by decide) (fun hc => ?_) (fun hc => ?_)
    · have hF := xx_in' hc hF
      exact zw_Machine_computeWithRegister_b29 C hA hK  u1 _ _ _ hF (lv_sub hl [] rfl) hP hD hS
    · have hF := xx_ip hc hF
      refine lv_iload_n hx hb zd_Machine_computeWithRegister_20 rfl (lv_at hl 1 rfl) ?_
      refine lv_if_eq (tgt := 31) hx hb zd_Machine_computeWithRegister_21 (by decide) (fun hc => ?_) (fun hc => ?_)
      · have hF := xx_ip hc hF
        exact zw_Machine_computeWithRegister_b31 C hA hK  u1 x1 v2 v3 _ _ _ hF (lv_sub hl [2, 3, 1, 0] rfl) hP hD hS
      · have hF := xx_in' hc hF
        refine lv_iload_n hx hb zd_Machine_computeWithRegister_24 rfl (lv_at hl 1 rfl) ?_
        refine lv_iconst (v := (5 : Int32)) hx hb zd_Machine_computeWithRegister_25 (by decide) ?_
        refine lv_icmp_eq (tgt := 31) hx hb zd_Machine_computeWithRegister_26 (by decide) (fun hc => ?_) (fun hc => ?_)
        · have hF := xx_ip hc hF
          exact zw_Machine_computeWithRegister_b31 C hA hK  u1 x1 v2 v3 _ _ _ hF (lv_sub hl [2, 3, 1, 0] rfl) hP hD hS
        · have hF := xx_in' hc hF
          exact zw_Machine_computeWithRegister_b29 C hA hK  u1 _ _ _ hF (lv_sub hl [] rfl) hP hD hS
theorem kw_648 : Cond.constant "ModuleLoader$Mender" 14 (1048575 : Int32) ∈ xx_tb := xx_in (List.mem_append_right _ (List.mem_of_getElem? (i := 648) (by decide +kernel))) (by decide +kernel)
theorem kw_649 : Cond.constant "ModuleLoader$Mender" 15 (33550463 : Int32) ∈ xx_tb := xx_in (List.mem_append_right _ (List.mem_of_getElem? (i := 649) (by decide +kernel))) (by decide +kernel)
set_option maxRecDepth 100000 in
theorem kw_652 : Cond.code ky_Mender_asInStore kb_Mender_asInStore 1 (some .int) ∈ xx_tb := xx_in (List.mem_append_right _ (List.mem_of_getElem? (i := 652) (by rfl))) (by decide +kernel)
theorem kw_650 : Cond.methodLink "ModuleLoader$Mender" 16 ky_Mender_asInStore ∈ xx_tb := xx_in (List.mem_append_right _ (List.mem_of_getElem? (i := 650) (by decide +kernel))) (by decide +kernel)
theorem kw_651 : Cond.static ky_Mender_asInStore ∈ xx_tb := xx_in (List.mem_append_right _ (List.mem_of_getElem? (i := 651) (by decide +kernel))) (by decide +kernel)
set_option maxRecDepth 100000 in
theorem kw_658 : Cond.code ky_Mender_asInJump kb_Mender_asInJump 1 (some .int) ∈ xx_tb := xx_in (List.mem_append_right _ (List.mem_of_getElem? (i := 658) (by rfl))) (by decide +kernel)
theorem kw_656 : Cond.methodLink "ModuleLoader$Mender" 20 ky_Mender_asInJump ∈ xx_tb := xx_in (List.mem_append_right _ (List.mem_of_getElem? (i := 656) (by decide +kernel))) (by decide +kernel)
theorem kw_657 : Cond.static ky_Mender_asInJump ∈ xx_tb := xx_in (List.mem_append_right _ (List.mem_of_getElem? (i := 657) (by decide +kernel))) (by decide +kernel)
set_option maxRecDepth 100000 in
theorem kw_661 : Cond.code ky_Mender_asInBranch kb_Mender_asInBranch 1 (some .int) ∈ xx_tb := xx_in (List.mem_append_right _ (List.mem_of_getElem? (i := 661) (by rfl))) (by decide +kernel)
theorem kw_659 : Cond.methodLink "ModuleLoader$Mender" 23 ky_Mender_asInBranch ∈ xx_tb := xx_in (List.mem_append_right _ (List.mem_of_getElem? (i := 659) (by decide +kernel))) (by decide +kernel)
theorem kw_660 : Cond.static ky_Mender_asInBranch ∈ xx_tb := xx_in (List.mem_append_right _ (List.mem_of_getElem? (i := 660) (by decide +kernel))) (by decide +kernel)
theorem zd_Mender_mended_0 : decode kb_Mender_mended 0 = .ok (.iload_n 0, 1) := by decide +kernel
theorem zd_Mender_mended_1 : decode kb_Mender_mended 1 = .ok (.tableswitch (84) (0) (4) #[35, 37, 53, 63, 73], 35) := by decide +kernel
theorem zd_Mender_mended_36 : decode kb_Mender_mended 36 = .ok (.iload_n 2, 1) := by decide +kernel
theorem zd_Mender_mended_37 : decode kb_Mender_mended 37 = .ok (.ireturn, 1) := by decide +kernel
theorem zd_Mender_mended_38 : decode kb_Mender_mended 38 = .ok (.iload_n 1, 1) := by decide +kernel
theorem zd_Mender_mended_39 : decode kb_Mender_mended 39 = .ok (.sipush (4095), 3) := by decide +kernel
theorem zd_Mender_mended_42 : decode kb_Mender_mended 42 = .ok (.iand, 1) := by decide +kernel
theorem zd_Mender_mended_43 : decode kb_Mender_mended 43 = .ok (.iload_n 2, 1) := by decide +kernel
theorem zd_Mender_mended_44 : decode kb_Mender_mended 44 = .ok (.sipush (2048), 3) := by decide +kernel
theorem zd_Mender_mended_47 : decode kb_Mender_mended 47 = .ok (.iadd, 1) := by decide +kernel
theorem zd_Mender_mended_48 : decode kb_Mender_mended 48 = .ok (.sipush (-4096), 3) := by decide +kernel
theorem zd_Mender_mended_51 : decode kb_Mender_mended 51 = .ok (.iand, 1) := by decide +kernel
theorem zd_Mender_mended_52 : decode kb_Mender_mended 52 = .ok (.ior, 1) := by decide +kernel
theorem zd_Mender_mended_53 : decode kb_Mender_mended 53 = .ok (.ireturn, 1) := by decide +kernel
theorem zd_Mender_mended_54 : decode kb_Mender_mended 54 = .ok (.iload_n 1, 1) := by decide +kernel
theorem zd_Mender_mended_55 : decode kb_Mender_mended 55 = .ok (.ldc 14, 2) := by decide +kernel
theorem zd_Mender_mended_57 : decode kb_Mender_mended 57 = .ok (.iand, 1) := by decide +kernel
theorem zd_Mender_mended_58 : decode kb_Mender_mended 58 = .ok (.iload_n 2, 1) := by decide +kernel
theorem zd_Mender_mended_59 : decode kb_Mender_mended 59 = .ok (.bipush (20), 2) := by decide +kernel
theorem zd_Mender_mended_61 : decode kb_Mender_mended 61 = .ok (.ishl, 1) := by decide +kernel
theorem zd_Mender_mended_62 : decode kb_Mender_mended 62 = .ok (.ior, 1) := by decide +kernel
theorem zd_Mender_mended_63 : decode kb_Mender_mended 63 = .ok (.ireturn, 1) := by decide +kernel
theorem zd_Mender_mended_64 : decode kb_Mender_mended 64 = .ok (.iload_n 1, 1) := by decide +kernel
theorem zd_Mender_mended_65 : decode kb_Mender_mended 65 = .ok (.ldc 15, 2) := by decide +kernel
theorem zd_Mender_mended_67 : decode kb_Mender_mended 67 = .ok (.iand, 1) := by decide +kernel
theorem zd_Mender_mended_68 : decode kb_Mender_mended 68 = .ok (.iload_n 2, 1) := by decide +kernel
theorem zd_Mender_mended_69 : decode kb_Mender_mended 69 = .ok (.invokestatic 16, 3) := by decide +kernel
theorem zd_Mender_mended_72 : decode kb_Mender_mended 72 = .ok (.ior, 1) := by decide +kernel
theorem zd_Mender_mended_73 : decode kb_Mender_mended 73 = .ok (.ireturn, 1) := by decide +kernel
theorem zd_Mender_mended_74 : decode kb_Mender_mended 74 = .ok (.iload_n 1, 1) := by decide +kernel
theorem zd_Mender_mended_75 : decode kb_Mender_mended 75 = .ok (.sipush (4095), 3) := by decide +kernel
theorem zd_Mender_mended_78 : decode kb_Mender_mended 78 = .ok (.iand, 1) := by decide +kernel
theorem zd_Mender_mended_79 : decode kb_Mender_mended 79 = .ok (.iload_n 2, 1) := by decide +kernel
theorem zd_Mender_mended_80 : decode kb_Mender_mended 80 = .ok (.invokestatic 20, 3) := by decide +kernel
theorem zd_Mender_mended_83 : decode kb_Mender_mended 83 = .ok (.ior, 1) := by decide +kernel
theorem zd_Mender_mended_84 : decode kb_Mender_mended 84 = .ok (.ireturn, 1) := by decide +kernel
theorem zd_Mender_mended_85 : decode kb_Mender_mended 85 = .ok (.iload_n 1, 1) := by decide +kernel
theorem zd_Mender_mended_86 : decode kb_Mender_mended 86 = .ok (.ldc 15, 2) := by decide +kernel
theorem zd_Mender_mended_88 : decode kb_Mender_mended 88 = .ok (.iand, 1) := by decide +kernel
theorem zd_Mender_mended_89 : decode kb_Mender_mended 89 = .ok (.iload_n 2, 1) := by decide +kernel
theorem zd_Mender_mended_90 : decode kb_Mender_mended 90 = .ok (.invokestatic 23, 3) := by decide +kernel
theorem zd_Mender_mended_93 : decode kb_Mender_mended 93 = .ok (.ior, 1) := by decide +kernel
theorem zd_Mender_mended_94 : decode kb_Mender_mended 94 = .ok (.ireturn, 1) := by decide +kernel
def zf_Mender_mended (u : zz_S) (x0 : Int32) (x1 : Int32) (x2 : Int32) : Option (Int32 × zz_S) := if x0 = 0 then (some (x2, u)) else (if x0 = 1 then (some (((x1 &&& (4095 : Int32)) ||| ((x2 + (2048 : Int32)) &&& (-4096 : Int32))), u)) else (if x0 = 2 then (some (((x1 &&& (1048575 : Int32)) ||| (x2 <<< ((20 : Int32) &&& 31))), u)) else (if x0 = 3 then (xx_b2 (zf_Mender_asInStore u x2) fun v2 u1 => some (((x1 &&& (33550463 : Int32)) ||| v2), u1)) else (if x0 = 4 then (xx_b2 (zf_Mender_asInJump u x2) fun v4 u3 => some (((x1 &&& (4095 : Int32)) ||| v4), u3)) else (xx_b2 (zf_Mender_asInBranch u x2) fun v6 u5 => some (((x1 &&& (33550463 : Int32)) ||| v6), u5))))))
set_option maxHeartbeats 4000000 in
set_option maxRecDepth 100000 in
theorem zc_Mender_mended (l : Launch) (g : xx_G) (u : zz_S) (x0 : Int32) (x1 : Int32) (x2 : Int32) (r : Int32) (u9 : zz_S) (hF : zf_Mender_mended u x0 x1 x2 = some (r, u9)) : xx_M l g.1 (zz_T g) (zz_W g) ky_Mender_mended kb_Mender_mended 3 (some .int) (xx_rm 2 42) [.int x0, .int x1, .int x2] u (some (.int r)) u9 := by
  refine xx_body (by decide) (Nat.le_of_ble_eq_true rfl) ?_
  intro p e s m args below meth c A ls C hin hK hl hA hP hD hS
  have hx := C.1
  have hb := C.2.1
  have hown := C.2.2.2.1
  have hts := C.2.2.2.2.1
  have hl : lv_has ls 3 [(0, .int x0), (1, .int x1), (2, .int x2)] := hl
  unfold zf_Mender_mended at hF
  refine lv_iload_n hx hb zd_Mender_mended_0 rfl (lv_at hl 0 rfl) ?_
  by_cases hs0 : x0 = (0 : Int32)
  · have hF := xx_ip hs0 hF
    refine lv_tableIn (off := 35) (tgt := 36) hx hb zd_Mender_mended_1 (by rw [hs0]; decide) (by rw [hs0]; decide) (by rw [hs0]; rfl) (by decide) ?_
    refine lv_iload_n hx hb zd_Mender_mended_36 rfl (lv_at hl 2 rfl) ?_
    exact xx_iret C hF hK hP hD hS zd_Mender_mended_37
  · have hF := xx_in' hs0 hF
    by_cases hs1 : x0 = (1 : Int32)
    · have hF := xx_ip hs1 hF
      refine lv_tableIn (off := 37) (tgt := 38) hx hb zd_Mender_mended_1 (by rw [hs1]; decide) (by rw [hs1]; decide) (by rw [hs1]; rfl) (by decide) ?_
      refine lv_iload_n hx hb zd_Mender_mended_38 rfl (lv_at hl 1 rfl) ?_
      refine lv_sipush (v := (4095 : Int32)) hx hb zd_Mender_mended_39 (by decide) ?_
      refine lv_iand hx hb zd_Mender_mended_42 ?_
      refine lv_iload_n hx hb zd_Mender_mended_43 rfl (lv_at hl 2 rfl) ?_
      refine lv_sipush (v := (2048 : Int32)) hx hb zd_Mender_mended_44 (by decide) ?_
      refine lv_iadd hx hb zd_Mender_mended_47 ?_
      refine lv_sipush (v := (-4096 : Int32)) hx hb zd_Mender_mended_48 (by decide) ?_
      refine lv_iand hx hb zd_Mender_mended_51 ?_
      refine lv_ior hx hb zd_Mender_mended_52 ?_
      exact xx_iret C hF hK hP hD hS zd_Mender_mended_53
    · have hF := xx_in' hs1 hF
      by_cases hs2 : x0 = (2 : Int32)
      · have hF := xx_ip hs2 hF
        refine lv_tableIn (off := 53) (tgt := 54) hx hb zd_Mender_mended_1 (by rw [hs2]; decide) (by rw [hs2]; decide) (by rw [hs2]; rfl) (by decide) ?_
        refine lv_iload_n hx hb zd_Mender_mended_54 rfl (lv_at hl 1 rfl) ?_
        refine lv_ldc (v := (1048575 : Int32)) hx hb hown (hts _ kw_648) zd_Mender_mended_55 ?_
        refine lv_iand hx hb zd_Mender_mended_57 ?_
        refine lv_iload_n hx hb zd_Mender_mended_58 rfl (lv_at hl 2 rfl) ?_
        refine lv_bipush (v := (20 : Int32)) hx hb zd_Mender_mended_59 (by decide) ?_
        refine lv_ishl hx hb zd_Mender_mended_61 ?_
        refine lv_ior hx hb zd_Mender_mended_62 ?_
        exact xx_iret C hF hK hP hD hS zd_Mender_mended_63
      · have hF := xx_in' hs2 hF
        by_cases hs3 : x0 = (3 : Int32)
        · have hF := xx_ip hs3 hF
          refine lv_tableIn (off := 63) (tgt := 64) hx hb zd_Mender_mended_1 (by rw [hs3]; decide) (by rw [hs3]; decide) (by rw [hs3]; rfl) (by decide) ?_
          refine lv_iload_n hx hb zd_Mender_mended_64 rfl (lv_at hl 1 rfl) ?_
          refine lv_ldc (v := (33550463 : Int32)) hx hb hown (hts _ kw_649) zd_Mender_mended_65 ?_
          refine lv_iand hx hb zd_Mender_mended_67 ?_
          refine lv_iload_n hx hb zd_Mender_mended_68 rfl (lv_at hl 2 rfl) ?_
          obtain ⟨v2, u1, eu1, hF⟩ := xx_b2_some hF
          refine xx_callS (n := 1) (As := [.int x2]) (rest := [.int (x1 &&& (33550463 : Int32))]) C (zc_Mender_asInStore l g u x2 v2 u1 eu1) ⟨kw_652, kw_650, kw_651, kw_17⟩ ⟨by decide +kernel, by decide +kernel, by decide +kernel⟩ rfl ⟨Nat.le_of_ble_eq_true rfl, Nat.le_of_ble_eq_true rfl⟩ hl.1 rfl (Nat.le_of_ble_eq_true rfl) hA hK hP hD hS ⟨Nat.le_refl _, Nat.le_refl _⟩ rfl rfl rfl zd_Mender_mended_69 (fun H locs hP hD hS => ?_)
          refine lv_ior hx hb zd_Mender_mended_72 ?_
          exact xx_iret C hF hK hP hD hS zd_Mender_mended_73
        · have hF := xx_in' hs3 hF
          by_cases hs4 : x0 = (4 : Int32)
          · have hF := xx_ip hs4 hF
            refine lv_tableIn (off := 73) (tgt := 74) hx hb zd_Mender_mended_1 (by rw [hs4]; decide) (by rw [hs4]; decide) (by rw [hs4]; rfl) (by decide) ?_
            refine lv_iload_n hx hb zd_Mender_mended_74 rfl (lv_at hl 1 rfl) ?_
            refine lv_sipush (v := (4095 : Int32)) hx hb zd_Mender_mended_75 (by decide) ?_
            refine lv_iand hx hb zd_Mender_mended_78 ?_
            refine lv_iload_n hx hb zd_Mender_mended_79 rfl (lv_at hl 2 rfl) ?_
            obtain ⟨v4, u3, eu3, hF⟩ := xx_b2_some hF
            refine xx_callS (n := 1) (As := [.int x2]) (rest := [.int (x1 &&& (4095 : Int32))]) C (zc_Mender_asInJump l g u x2 v4 u3 eu3) ⟨kw_658, kw_656, kw_657, kw_17⟩ ⟨by decide +kernel, by decide +kernel, by decide +kernel⟩ rfl ⟨Nat.le_of_ble_eq_true rfl, Nat.le_of_ble_eq_true rfl⟩ hl.1 rfl (Nat.le_of_ble_eq_true rfl) hA hK hP hD hS ⟨Nat.le_refl _, Nat.le_refl _⟩ rfl rfl rfl zd_Mender_mended_80 (fun H locs hP hD hS => ?_)
            refine lv_ior hx hb zd_Mender_mended_83 ?_
            exact xx_iret C hF hK hP hD hS zd_Mender_mended_84
          · have hF := xx_in' hs4 hF
            refine lv_tableOut (tgt := 85) hx hb zd_Mender_mended_1 (by have h0 := lv_neT (a := 0) hs0 (by decide); have h1 := lv_neT (a := 1) hs1 (by decide); have h2 := lv_neT (a := 2) hs2 (by decide); have h3 := lv_neT (a := 3) hs3 (by decide); have h4 := lv_neT (a := 4) hs4 (by decide); omega) (by decide) ?_
            refine lv_iload_n hx hb zd_Mender_mended_85 rfl (lv_at hl 1 rfl) ?_
            refine lv_ldc (v := (33550463 : Int32)) hx hb hown (hts _ kw_649) zd_Mender_mended_86 ?_
            refine lv_iand hx hb zd_Mender_mended_88 ?_
            refine lv_iload_n hx hb zd_Mender_mended_89 rfl (lv_at hl 2 rfl) ?_
            obtain ⟨v6, u5, eu5, hF⟩ := xx_b2_some hF
            refine xx_callS (n := 1) (As := [.int x2]) (rest := [.int (x1 &&& (33550463 : Int32))]) C (zc_Mender_asInBranch l g u x2 v6 u5 eu5) ⟨kw_661, kw_659, kw_660, kw_17⟩ ⟨by decide +kernel, by decide +kernel, by decide +kernel⟩ rfl ⟨Nat.le_of_ble_eq_true rfl, Nat.le_of_ble_eq_true rfl⟩ hl.1 rfl (Nat.le_of_ble_eq_true rfl) hA hK hP hD hS ⟨Nat.le_refl _, Nat.le_refl _⟩ rfl rfl rfl zd_Mender_mended_90 (fun H locs hP hD hS => ?_)
            refine lv_ior hx hb zd_Mender_mended_93 ?_
            exact xx_iret C hF hK hP hD hS zd_Mender_mended_94
set_option maxRecDepth 100000 in
theorem kw_522 : Cond.code ky_ModuleFile_isUpTo kb_ModuleFile_isUpTo 2 (some .boolean) ∈ xx_tb := xx_in (List.mem_append_right _ (List.mem_of_getElem? (i := 522) (by rfl))) (by decide +kernel)
theorem kw_520 : Cond.methodLink "ModuleLoader$ModuleFile" 73 ky_ModuleFile_isUpTo ∈ xx_tb := xx_in (List.mem_append_right _ (List.mem_of_getElem? (i := 520) (by decide +kernel))) (by decide +kernel)
theorem kw_521 : Cond.static ky_ModuleFile_isUpTo ∈ xx_tb := xx_in (List.mem_append_right _ (List.mem_of_getElem? (i := 521) (by decide +kernel))) (by decide +kernel)
set_option maxRecDepth 100000 in
theorem kw_526 : Cond.code ky_ModuleFile_isOffset kb_ModuleFile_isOffset 2 (some .boolean) ∈ xx_tb := xx_in (List.mem_append_right _ (List.mem_of_getElem? (i := 526) (by rfl))) (by decide +kernel)
theorem kw_523 : Cond.methodLink "ModuleLoader$ModuleFile" 77 ky_ModuleFile_isOffset ∈ xx_tb := xx_in (List.mem_append_right _ (List.mem_of_getElem? (i := 523) (by decide +kernel))) (by decide +kernel)
theorem kw_525 : Cond.instanceMethod ky_ModuleFile_isOffset ∈ xx_tb := xx_in (List.mem_append_right _ (List.mem_of_getElem? (i := 525) (by decide +kernel))) (by decide +kernel)
theorem ks_ModuleFile_isOffset : Cond.selects "ModuleLoader$ModuleFile" ky_ModuleFile_isOffset ky_ModuleFile_isOffset ∈ xx_tb := xx_in (List.mem_append_left _ (by decide +kernel)) (by decide +kernel)
theorem zd_ModuleFile_headerHolds_0 : decode kb_ModuleFile_headerHolds 0 = .ok (.aload_n 0, 1) := by decide +kernel
theorem zd_ModuleFile_headerHolds_1 : decode kb_ModuleFile_headerHolds 1 = .ok (.getfield 33, 3) := by decide +kernel
theorem zd_ModuleFile_headerHolds_4 : decode kb_ModuleFile_headerHolds 4 = .ok (.iconst 4, 1) := by decide +kernel
theorem zd_ModuleFile_headerHolds_5 : decode kb_ModuleFile_headerHolds 5 = .ok (.if_icmp .lt (123), 3) := by decide +kernel
theorem zd_ModuleFile_headerHolds_8 : decode kb_ModuleFile_headerHolds 8 = .ok (.aload_n 0, 1) := by decide +kernel
theorem zd_ModuleFile_headerHolds_9 : decode kb_ModuleFile_headerHolds 9 = .ok (.getfield 33, 3) := by decide +kernel
theorem zd_ModuleFile_headerHolds_12 : decode kb_ModuleFile_headerHolds 12 = .ok (.sipush (512), 3) := by decide +kernel
theorem zd_ModuleFile_headerHolds_15 : decode kb_ModuleFile_headerHolds 15 = .ok (.if_icmp .gt (113), 3) := by decide +kernel
theorem zd_ModuleFile_headerHolds_18 : decode kb_ModuleFile_headerHolds 18 = .ok (.aload_n 0, 1) := by decide +kernel
theorem zd_ModuleFile_headerHolds_19 : decode kb_ModuleFile_headerHolds 19 = .ok (.getfield 33, 3) := by decide +kernel
theorem zd_ModuleFile_headerHolds_22 : decode kb_ModuleFile_headerHolds 22 = .ok (.iconst 3, 1) := by decide +kernel
theorem zd_ModuleFile_headerHolds_23 : decode kb_ModuleFile_headerHolds 23 = .ok (.iand, 1) := by decide +kernel
theorem zd_ModuleFile_headerHolds_24 : decode kb_ModuleFile_headerHolds 24 = .ok (.ifCond .ne (104), 3) := by decide +kernel
theorem zd_ModuleFile_headerHolds_27 : decode kb_ModuleFile_headerHolds 27 = .ok (.aload_n 0, 1) := by decide +kernel
theorem zd_ModuleFile_headerHolds_28 : decode kb_ModuleFile_headerHolds 28 = .ok (.getfield 40, 3) := by decide +kernel
theorem zd_ModuleFile_headerHolds_31 : decode kb_ModuleFile_headerHolds 31 = .ok (.bipush (8), 2) := by decide +kernel
theorem zd_ModuleFile_headerHolds_33 : decode kb_ModuleFile_headerHolds 33 = .ok (.invokestatic 73, 3) := by decide +kernel
theorem zd_ModuleFile_headerHolds_36 : decode kb_ModuleFile_headerHolds 36 = .ok (.ifCond .eq (92), 3) := by decide +kernel
theorem zd_ModuleFile_headerHolds_39 : decode kb_ModuleFile_headerHolds 39 = .ok (.aload_n 0, 1) := by decide +kernel
theorem zd_ModuleFile_headerHolds_40 : decode kb_ModuleFile_headerHolds 40 = .ok (.getfield 46, 3) := by decide +kernel
theorem zd_ModuleFile_headerHolds_43 : decode kb_ModuleFile_headerHolds 43 = .ok (.bipush (8), 2) := by decide +kernel
theorem zd_ModuleFile_headerHolds_45 : decode kb_ModuleFile_headerHolds 45 = .ok (.invokestatic 73, 3) := by decide +kernel
theorem zd_ModuleFile_headerHolds_48 : decode kb_ModuleFile_headerHolds 48 = .ok (.ifCond .eq (80), 3) := by decide +kernel
theorem zd_ModuleFile_headerHolds_51 : decode kb_ModuleFile_headerHolds 51 = .ok (.aload_n 0, 1) := by decide +kernel
theorem zd_ModuleFile_headerHolds_52 : decode kb_ModuleFile_headerHolds 52 = .ok (.getfield 52, 3) := by decide +kernel
theorem zd_ModuleFile_headerHolds_55 : decode kb_ModuleFile_headerHolds 55 = .ok (.bipush (24), 2) := by decide +kernel
theorem zd_ModuleFile_headerHolds_57 : decode kb_ModuleFile_headerHolds 57 = .ok (.invokestatic 73, 3) := by decide +kernel
theorem zd_ModuleFile_headerHolds_60 : decode kb_ModuleFile_headerHolds 60 = .ok (.ifCond .eq (68), 3) := by decide +kernel
theorem zd_ModuleFile_headerHolds_63 : decode kb_ModuleFile_headerHolds 63 = .ok (.aload_n 0, 1) := by decide +kernel
theorem zd_ModuleFile_headerHolds_64 : decode kb_ModuleFile_headerHolds 64 = .ok (.getfield 64, 3) := by decide +kernel
theorem zd_ModuleFile_headerHolds_67 : decode kb_ModuleFile_headerHolds 67 = .ok (.iconst (-1), 1) := by decide +kernel
theorem zd_ModuleFile_headerHolds_68 : decode kb_ModuleFile_headerHolds 68 = .ok (.if_icmp .eq (14), 3) := by decide +kernel
theorem zd_ModuleFile_headerHolds_71 : decode kb_ModuleFile_headerHolds 71 = .ok (.aload_n 0, 1) := by decide +kernel
theorem zd_ModuleFile_headerHolds_72 : decode kb_ModuleFile_headerHolds 72 = .ok (.aload_n 0, 1) := by decide +kernel
theorem zd_ModuleFile_headerHolds_73 : decode kb_ModuleFile_headerHolds 73 = .ok (.getfield 64, 3) := by decide +kernel
theorem zd_ModuleFile_headerHolds_76 : decode kb_ModuleFile_headerHolds 76 = .ok (.invokevirtual 77, 3) := by decide +kernel
theorem zd_ModuleFile_headerHolds_79 : decode kb_ModuleFile_headerHolds 79 = .ok (.ifCond .eq (49), 3) := by decide +kernel
theorem zd_ModuleFile_headerHolds_82 : decode kb_ModuleFile_headerHolds 82 = .ok (.aload_n 0, 1) := by decide +kernel
theorem zd_ModuleFile_headerHolds_83 : decode kb_ModuleFile_headerHolds 83 = .ok (.getfield 67, 3) := by decide +kernel
theorem zd_ModuleFile_headerHolds_86 : decode kb_ModuleFile_headerHolds 86 = .ok (.iconst (-1), 1) := by decide +kernel
theorem zd_ModuleFile_headerHolds_87 : decode kb_ModuleFile_headerHolds 87 = .ok (.if_icmp .eq (14), 3) := by decide +kernel
theorem zd_ModuleFile_headerHolds_90 : decode kb_ModuleFile_headerHolds 90 = .ok (.aload_n 0, 1) := by decide +kernel
theorem zd_ModuleFile_headerHolds_91 : decode kb_ModuleFile_headerHolds 91 = .ok (.aload_n 0, 1) := by decide +kernel
theorem zd_ModuleFile_headerHolds_92 : decode kb_ModuleFile_headerHolds 92 = .ok (.getfield 67, 3) := by decide +kernel
theorem zd_ModuleFile_headerHolds_95 : decode kb_ModuleFile_headerHolds 95 = .ok (.invokevirtual 77, 3) := by decide +kernel
theorem zd_ModuleFile_headerHolds_98 : decode kb_ModuleFile_headerHolds 98 = .ok (.ifCond .eq (30), 3) := by decide +kernel
theorem zd_ModuleFile_headerHolds_101 : decode kb_ModuleFile_headerHolds 101 = .ok (.aload_n 0, 1) := by decide +kernel
theorem zd_ModuleFile_headerHolds_102 : decode kb_ModuleFile_headerHolds 102 = .ok (.getfield 70, 3) := by decide +kernel
theorem zd_ModuleFile_headerHolds_105 : decode kb_ModuleFile_headerHolds 105 = .ok (.aload_n 0, 1) := by decide +kernel
theorem zd_ModuleFile_headerHolds_106 : decode kb_ModuleFile_headerHolds 106 = .ok (.getfield 33, 3) := by decide +kernel
theorem zd_ModuleFile_headerHolds_109 : decode kb_ModuleFile_headerHolds 109 = .ok (.invokestatic 73, 3) := by decide +kernel
theorem zd_ModuleFile_headerHolds_112 : decode kb_ModuleFile_headerHolds 112 = .ok (.ifCond .eq (16), 3) := by decide +kernel
theorem zd_ModuleFile_headerHolds_115 : decode kb_ModuleFile_headerHolds 115 = .ok (.aload_n 0, 1) := by decide +kernel
theorem zd_ModuleFile_headerHolds_116 : decode kb_ModuleFile_headerHolds 116 = .ok (.getfield 70, 3) := by decide +kernel
theorem zd_ModuleFile_headerHolds_119 : decode kb_ModuleFile_headerHolds 119 = .ok (.iconst 3, 1) := by decide +kernel
theorem zd_ModuleFile_headerHolds_120 : decode kb_ModuleFile_headerHolds 120 = .ok (.iand, 1) := by decide +kernel
theorem zd_ModuleFile_headerHolds_121 : decode kb_ModuleFile_headerHolds 121 = .ok (.ifCond .ne (7), 3) := by decide +kernel
theorem zd_ModuleFile_headerHolds_124 : decode kb_ModuleFile_headerHolds 124 = .ok (.iconst 1, 1) := by decide +kernel
theorem zd_ModuleFile_headerHolds_125 : decode kb_ModuleFile_headerHolds 125 = .ok (.goto (4), 3) := by decide +kernel
theorem zd_ModuleFile_headerHolds_128 : decode kb_ModuleFile_headerHolds 128 = .ok (.iconst 0, 1) := by decide +kernel
theorem zd_ModuleFile_headerHolds_129 : decode kb_ModuleFile_headerHolds 129 = .ok (.ireturn, 1) := by decide +kernel
def zf_ModuleFile_headerHolds_b129 (u : zz_S) (y0 : Int32) : Option (Int32 × zz_S) := some (vp_nar .boolean y0, u)
def zf_ModuleFile_headerHolds_b128 (u : zz_S) : Option (Int32 × zz_S) := zf_ModuleFile_headerHolds_b129 u (0 : Int32)
def zf_ModuleFile_headerHolds_b101 (u : zz_S) : Option (Int32 × zz_S) := xx_b2 (zf_ModuleFile_isUpTo u (u.1 11) (u.1 5)) fun v2 u1 => if v2 = 0 then (zf_ModuleFile_headerHolds_b128 u1) else (if ((u1.1 11) &&& (3 : Int32)) = 0 then (zf_ModuleFile_headerHolds_b129 u1 (1 : Int32)) else (zf_ModuleFile_headerHolds_b128 u1))
def zf_ModuleFile_headerHolds_b82 (u : zz_S) : Option (Int32 × zz_S) := if (u.1 10) = (-1 : Int32) then (zf_ModuleFile_headerHolds_b101 u) else (xx_b2 (zf_ModuleFile_isOffset u (u.1 10)) fun v2 u1 => if v2 = 0 then (zf_ModuleFile_headerHolds_b128 u1) else (zf_ModuleFile_headerHolds_b101 u1))
def zf_ModuleFile_headerHolds (u : zz_S) : Option (Int32 × zz_S) := if (u.1 5) < (4 : Int32) then (zf_ModuleFile_headerHolds_b128 u) else (if (512 : Int32) < (u.1 5) then (zf_ModuleFile_headerHolds_b128 u) else (if ((u.1 5) &&& (3 : Int32)) = 0 then (xx_b2 (zf_ModuleFile_isUpTo u (u.1 6) (8 : Int32)) fun v2 u1 => if v2 = 0 then (zf_ModuleFile_headerHolds_b128 u1) else (xx_b2 (zf_ModuleFile_isUpTo u1 (u1.1 7) (8 : Int32)) fun v4 u3 => if v4 = 0 then (zf_ModuleFile_headerHolds_b128 u3) else (xx_b2 (zf_ModuleFile_isUpTo u3 (u3.1 8) (24 : Int32)) fun v6 u5 => if v6 = 0 then (zf_ModuleFile_headerHolds_b128 u5) else (if (u5.1 9) = (-1 : Int32) then (zf_ModuleFile_headerHolds_b82 u5) else (xx_b2 (zf_ModuleFile_isOffset u5 (u5.1 9)) fun v8 u7 => if v8 = 0 then (zf_ModuleFile_headerHolds_b128 u7) else (zf_ModuleFile_headerHolds_b82 u7)))))) else (zf_ModuleFile_headerHolds_b128 u)))
set_option maxHeartbeats 4000000 in
set_option maxRecDepth 100000 in
theorem zw_ModuleFile_headerHolds_b129 {p : Program} {l : Launch} {e : Env} {s : State} {m : MethodId} {args : Array Value} {below : List Frame} {meth : Method} {c : Code} {A : Nat → Prop} {g : xx_G} {r : Int32} {u9 : zz_S} (C : xx_C p s m args meth c kb_ModuleFile_headerHolds 1 kr_ModuleFile (some .boolean)) (hA : ∀ q, s.heap.size ≤ q → A q) (hK : va_K g.1 xx_cls (zz_T g) s) : ∀ (u : zz_S) (y0 : Int32) (H : Heap) (locs : List Loc) (ls : Array Slot), zf_ModuleFile_headerHolds_b129 u y0 = some (r, u9) → lv_has ls 1 [] → va_P g.1 xx_cls (zz_W g u) H → va_D A (zz_W g u) → va_S A s.heap H locs → W p l e (xx_rm 2 42) s m args below meth c H locs 0 0 (MQ below (xx_Q g.1 (zz_T g) (zz_W g) (some (.int r)) u9 A) args s 0 0 A) (F0 m 129 ls [.int y0]) := by
  have hx := C.1
  have hb := C.2.1
  have hown := C.2.2.2.1
  have hts := C.2.2.2.2.1
  intro u y0 H locs ls hF hl hP hD hS
  unfold zf_ModuleFile_headerHolds_b129 at hF
  exact xx_zret C hF hK hP hD hS zd_ModuleFile_headerHolds_129
set_option maxHeartbeats 4000000 in
set_option maxRecDepth 100000 in
theorem zw_ModuleFile_headerHolds_b128 {p : Program} {l : Launch} {e : Env} {s : State} {m : MethodId} {args : Array Value} {below : List Frame} {meth : Method} {c : Code} {A : Nat → Prop} {g : xx_G} {r : Int32} {u9 : zz_S} (C : xx_C p s m args meth c kb_ModuleFile_headerHolds 1 kr_ModuleFile (some .boolean)) (hA : ∀ q, s.heap.size ≤ q → A q) (hK : va_K g.1 xx_cls (zz_T g) s) : ∀ (u : zz_S) (H : Heap) (locs : List Loc) (ls : Array Slot), zf_ModuleFile_headerHolds_b128 u = some (r, u9) → lv_has ls 1 [] → va_P g.1 xx_cls (zz_W g u) H → va_D A (zz_W g u) → va_S A s.heap H locs → W p l e (xx_rm 2 42) s m args below meth c H locs 0 0 (MQ below (xx_Q g.1 (zz_T g) (zz_W g) (some (.int r)) u9 A) args s 0 0 A) (F0 m 128 ls []) := by
  have hx := C.1
  have hb := C.2.1
  have hown := C.2.2.2.1
  have hts := C.2.2.2.2.1
  intro u H locs ls hF hl hP hD hS
  unfold zf_ModuleFile_headerHolds_b128 at hF
  refine lv_iconst (v := (0 : Int32)) hx hb zd_ModuleFile_headerHolds_128 (by decide) ?_
  exact zw_ModuleFile_headerHolds_b129 C hA hK  u (0 : Int32) _ _ _ hF (lv_sub hl [] rfl) hP hD hS
set_option maxHeartbeats 4000000 in
set_option maxRecDepth 100000 in
theorem zw_ModuleFile_headerHolds_b101 {p : Program} {l : Launch} {e : Env} {s : State} {m : MethodId} {args : Array Value} {below : List Frame} {meth : Method} {c : Code} {A : Nat → Prop} {g : xx_G} {r : Int32} {u9 : zz_S} (C : xx_C p s m args meth c kb_ModuleFile_headerHolds 1 kr_ModuleFile (some .boolean)) (hA : ∀ q, s.heap.size ≤ q → A q) (hK : va_K g.1 xx_cls (zz_T g) s) : ∀ (u : zz_S) (H : Heap) (locs : List Loc) (ls : Array Slot), zf_ModuleFile_headerHolds_b101 u = some (r, u9) → lv_has ls 1 [(0, .ref (g.2.1 8))] → va_P g.1 xx_cls (zz_W g u) H → va_D A (zz_W g u) → va_S A s.heap H locs → W p l e (xx_rm 2 42) s m args below meth c H locs 0 0 (MQ below (xx_Q g.1 (zz_T g) (zz_W g) (some (.int r)) u9 A) args s 0 0 A) (F0 m 101 ls []) := by
  have hx := C.1
  have hb := C.2.1
  have hown := C.2.2.2.1
  have hts := C.2.2.2.2.1
  intro u H locs ls hF hl hP hD hS
  unfold zf_ModuleFile_headerHolds_b101 at hF
  refine lv_aload_n hx hb zd_ModuleFile_headerHolds_101 rfl (lv_at hl 0 rfl) ?_
  refine xx_get C ki_ModuleFile hK hP 8 rfl rfl 6 (by decide) kw_102 rfl rfl zd_ModuleFile_headerHolds_102 ?_
  refine lv_aload_n hx hb zd_ModuleFile_headerHolds_105 rfl (lv_at hl 0 rfl) ?_
  refine xx_get C ki_ModuleFile hK hP 8 rfl rfl 0 (by decide) kw_88 rfl rfl zd_ModuleFile_headerHolds_106 ?_
  obtain ⟨v2, u1, eu1, hF⟩ := xx_b2_some hF
  refine xx_callS (n := 2) (As := [.int (u.1 11), .int (u.1 5)]) (rest := []) C (zc_ModuleFile_isUpTo l g u (u.1 11) (u.1 5) v2 u1 eu1) ⟨kw_522, kw_520, kw_521, kw_5⟩ ⟨by decide +kernel, by decide +kernel, by decide +kernel⟩ rfl ⟨Nat.le_of_ble_eq_true rfl, Nat.le_of_ble_eq_true rfl⟩ hl.1 rfl (Nat.le_of_ble_eq_true rfl) hA hK hP hD hS ⟨Nat.le_refl _, Nat.le_refl _⟩ rfl rfl rfl zd_ModuleFile_headerHolds_109 (fun H locs hP hD hS => ?_)
  refine lv_if_eq (tgt := 128) hx hb zd_ModuleFile_headerHolds_112 (by decide) (fun hc => ?_) (fun hc => ?_)
  · have hF := xx_ip hc hF
    exact zw_ModuleFile_headerHolds_b128 C hA hK  u1 _ _ _ hF (lv_sub hl [] rfl) hP hD hS
  · have hF := xx_in' hc hF
    refine lv_aload_n hx hb zd_ModuleFile_headerHolds_115 rfl (lv_at hl 0 rfl) ?_
    refine xx_get C ki_ModuleFile hK hP 8 rfl rfl 6 (by decide) kw_102 rfl rfl zd_ModuleFile_headerHolds_116 ?_
    refine lv_iconst (v := (3 : Int32)) hx hb zd_ModuleFile_headerHolds_119 (by decide) ?_
    refine lv_iand hx hb zd_ModuleFile_headerHolds_120 ?_
    refine lv_if_ne (tgt := 128) hx hb zd_ModuleFile_headerHolds_121 (by decide) (fun hc => ?_) (fun hc => ?_)
    · have hF := xx_in' hc hF
      exact zw_ModuleFile_headerHolds_b128 C hA hK  u1 _ _ _ hF (lv_sub hl [] rfl) hP hD hS
    · have hF := xx_ip hc hF
      refine lv_iconst (v := (1 : Int32)) hx hb zd_ModuleFile_headerHolds_124 (by decide) ?_
      refine lv_goto (tgt := 129) hx hb zd_ModuleFile_headerHolds_125 (by decide) ?_
      exact zw_ModuleFile_headerHolds_b129 C hA hK  u1 (1 : Int32) _ _ _ hF (lv_sub hl [] rfl) hP hD hS
set_option maxHeartbeats 4000000 in
set_option maxRecDepth 100000 in
theorem zw_ModuleFile_headerHolds_b82 {p : Program} {l : Launch} {e : Env} {s : State} {m : MethodId} {args : Array Value} {below : List Frame} {meth : Method} {c : Code} {A : Nat → Prop} {g : xx_G} {r : Int32} {u9 : zz_S} (C : xx_C p s m args meth c kb_ModuleFile_headerHolds 1 kr_ModuleFile (some .boolean)) (hA : ∀ q, s.heap.size ≤ q → A q) (hK : va_K g.1 xx_cls (zz_T g) s) : ∀ (u : zz_S) (H : Heap) (locs : List Loc) (ls : Array Slot), zf_ModuleFile_headerHolds_b82 u = some (r, u9) → lv_has ls 1 [(0, .ref (g.2.1 8))] → va_P g.1 xx_cls (zz_W g u) H → va_D A (zz_W g u) → va_S A s.heap H locs → W p l e (xx_rm 2 42) s m args below meth c H locs 0 0 (MQ below (xx_Q g.1 (zz_T g) (zz_W g) (some (.int r)) u9 A) args s 0 0 A) (F0 m 82 ls []) := by
  have hx := C.1
  have hb := C.2.1
  have hown := C.2.2.2.1
  have hts := C.2.2.2.2.1
  intro u H locs ls hF hl hP hD hS
  unfold zf_ModuleFile_headerHolds_b82 at hF
  refine lv_aload_n hx hb zd_ModuleFile_headerHolds_82 rfl (lv_at hl 0 rfl) ?_
  refine xx_get C ki_ModuleFile hK hP 8 rfl rfl 5 (by decide) kw_100 rfl rfl zd_ModuleFile_headerHolds_83 ?_
  refine lv_iconst (v := (-1 : Int32)) hx hb zd_ModuleFile_headerHolds_86 (by decide) ?_
  refine lv_icmp_eq (tgt := 101) hx hb zd_ModuleFile_headerHolds_87 (by decide) (fun hc => ?_) (fun hc => ?_)
  · have hF := xx_ip hc hF
    exact zw_ModuleFile_headerHolds_b101 C hA hK  u _ _ _ hF (lv_sub hl [0] rfl) hP hD hS
  · have hF := xx_in' hc hF
    refine lv_aload_n hx hb zd_ModuleFile_headerHolds_90 rfl (lv_at hl 0 rfl) ?_
    refine lv_aload_n hx hb zd_ModuleFile_headerHolds_91 rfl (lv_at hl 0 rfl) ?_
    refine xx_get C ki_ModuleFile hK hP 8 rfl rfl 5 (by decide) kw_100 rfl rfl zd_ModuleFile_headerHolds_92 ?_
    obtain ⟨v2, u1, eu1, hF⟩ := xx_b2_some hF
    refine xx_callV (n := 1) (As := [.int (u.1 10)]) (rest := []) C (zc_ModuleFile_isOffset l g u (u.1 10) v2 u1 eu1) ⟨kw_526, kw_523, kw_525, ks_ModuleFile_isOffset, kw_5⟩ ⟨by decide +kernel, by decide +kernel, by decide +kernel⟩ rfl ⟨Nat.le_of_ble_eq_true rfl, Nat.le_of_ble_eq_true rfl⟩ 8 rfl rfl hl.1 rfl (Nat.le_of_ble_eq_true rfl) hA hK hP hD hS ⟨Nat.le_refl _, Nat.le_refl _⟩ rfl rfl rfl zd_ModuleFile_headerHolds_95 (fun H locs hP hD hS => ?_)
    refine lv_if_eq (tgt := 128) hx hb zd_ModuleFile_headerHolds_98 (by decide) (fun hc => ?_) (fun hc => ?_)
    · have hF := xx_ip hc hF
      exact zw_ModuleFile_headerHolds_b128 C hA hK  u1 _ _ _ hF (lv_sub hl [] rfl) hP hD hS
    · have hF := xx_in' hc hF
      exact zw_ModuleFile_headerHolds_b101 C hA hK  u1 _ _ _ hF (lv_sub hl [0] rfl) hP hD hS
set_option maxHeartbeats 4000000 in
set_option maxRecDepth 100000 in
theorem zc_ModuleFile_headerHolds (l : Launch) (g : xx_G) (u : zz_S) (r : Int32) (u9 : zz_S) (hF : zf_ModuleFile_headerHolds u = some (r, u9)) : xx_M l g.1 (zz_T g) (zz_W g) ky_ModuleFile_headerHolds kb_ModuleFile_headerHolds 1 (some .boolean) (xx_rm 2 42) [.ref (g.2.1 8)] u (some (.int r)) u9 := by
  refine xx_body (by decide) (Nat.le_of_ble_eq_true rfl) ?_
  intro p e s m args below meth c A ls C hin hK hl hA hP hD hS
  have hx := C.1
  have hb := C.2.1
  have hown := C.2.2.2.1
  have hts := C.2.2.2.2.1
  have hl : lv_has ls 1 [(0, .ref (g.2.1 8))] := hl
  unfold zf_ModuleFile_headerHolds at hF
  refine lv_aload_n hx hb zd_ModuleFile_headerHolds_0 rfl (lv_at hl 0 rfl) ?_
  refine xx_get C ki_ModuleFile hK hP 8 rfl rfl 0 (by decide) kw_88 rfl rfl zd_ModuleFile_headerHolds_1 ?_
  refine lv_iconst (v := (4 : Int32)) hx hb zd_ModuleFile_headerHolds_4 (by decide) ?_
  refine lv_icmp_lt (tgt := 128) hx hb zd_ModuleFile_headerHolds_5 (by decide) (fun hc => ?_) (fun hc => ?_)
  · have hF := xx_ip hc hF
    exact zw_ModuleFile_headerHolds_b128 C hA hK  u _ _ _ hF (lv_sub hl [] rfl) hP hD hS
  · have hF := xx_in' hc hF
    refine lv_aload_n hx hb zd_ModuleFile_headerHolds_8 rfl (lv_at hl 0 rfl) ?_
    refine xx_get C ki_ModuleFile hK hP 8 rfl rfl 0 (by decide) kw_88 rfl rfl zd_ModuleFile_headerHolds_9 ?_
    refine lv_sipush (v := (512 : Int32)) hx hb zd_ModuleFile_headerHolds_12 (by decide) ?_
    refine lv_icmp_gt (tgt := 128) hx hb zd_ModuleFile_headerHolds_15 (by decide) (fun hc => ?_) (fun hc => ?_)
    · have hF := xx_ip hc hF
      exact zw_ModuleFile_headerHolds_b128 C hA hK  u _ _ _ hF (lv_sub hl [] rfl) hP hD hS
    · have hF := xx_in' hc hF
      refine lv_aload_n hx hb zd_ModuleFile_headerHolds_18 rfl (lv_at hl 0 rfl) ?_
      refine xx_get C ki_ModuleFile hK hP 8 rfl rfl 0 (by decide) kw_88 rfl rfl zd_ModuleFile_headerHolds_19 ?_
      refine lv_iconst (v := (3 : Int32)) hx hb zd_ModuleFile_headerHolds_22 (by decide) ?_
      refine lv_iand hx hb zd_ModuleFile_headerHolds_23 ?_
      refine lv_if_ne (tgt := 128) hx hb zd_ModuleFile_headerHolds_24 (by decide) (fun hc => ?_) (fun hc => ?_)
      · have hF := xx_in' hc hF
        exact zw_ModuleFile_headerHolds_b128 C hA hK  u _ _ _ hF (lv_sub hl [] rfl) hP hD hS
      · have hF := xx_ip hc hF
        refine lv_aload_n hx hb zd_ModuleFile_headerHolds_27 rfl (lv_at hl 0 rfl) ?_
        refine xx_get C ki_ModuleFile hK hP 8 rfl rfl 1 (by decide) kw_90 rfl rfl zd_ModuleFile_headerHolds_28 ?_
        refine lv_bipush (v := (8 : Int32)) hx hb zd_ModuleFile_headerHolds_31 (by decide) ?_
        obtain ⟨v2, u1, eu1, hF⟩ := xx_b2_some hF
        refine xx_callS (n := 2) (As := [.int (u.1 6), .int (8 : Int32)]) (rest := []) C (zc_ModuleFile_isUpTo l g u (u.1 6) (8 : Int32) v2 u1 eu1) ⟨kw_522, kw_520, kw_521, kw_5⟩ ⟨by decide +kernel, by decide +kernel, by decide +kernel⟩ rfl ⟨Nat.le_of_ble_eq_true rfl, Nat.le_of_ble_eq_true rfl⟩ hl.1 rfl (Nat.le_of_ble_eq_true rfl) hA hK hP hD hS ⟨Nat.le_refl _, Nat.le_refl _⟩ rfl rfl rfl zd_ModuleFile_headerHolds_33 (fun H locs hP hD hS => ?_)
        refine lv_if_eq (tgt := 128) hx hb zd_ModuleFile_headerHolds_36 (by decide) (fun hc => ?_) (fun hc => ?_)
        · have hF := xx_ip hc hF
          exact zw_ModuleFile_headerHolds_b128 C hA hK  u1 _ _ _ hF (lv_sub hl [] rfl) hP hD hS
        · have hF := xx_in' hc hF
          refine lv_aload_n hx hb zd_ModuleFile_headerHolds_39 rfl (lv_at hl 0 rfl) ?_
          refine xx_get C ki_ModuleFile hK hP 8 rfl rfl 2 (by decide) kw_93 rfl rfl zd_ModuleFile_headerHolds_40 ?_
          refine lv_bipush (v := (8 : Int32)) hx hb zd_ModuleFile_headerHolds_43 (by decide) ?_
          obtain ⟨v4, u3, eu3, hF⟩ := xx_b2_some hF
          refine xx_callS (n := 2) (As := [.int (u1.1 7), .int (8 : Int32)]) (rest := []) C (zc_ModuleFile_isUpTo l g u1 (u1.1 7) (8 : Int32) v4 u3 eu3) ⟨kw_522, kw_520, kw_521, kw_5⟩ ⟨by decide +kernel, by decide +kernel, by decide +kernel⟩ rfl ⟨Nat.le_of_ble_eq_true rfl, Nat.le_of_ble_eq_true rfl⟩ hl.1 rfl (Nat.le_of_ble_eq_true rfl) hA hK hP hD hS ⟨Nat.le_refl _, Nat.le_refl _⟩ rfl rfl rfl zd_ModuleFile_headerHolds_45 (fun H locs hP hD hS => ?_)
          refine lv_if_eq (tgt := 128) hx hb zd_ModuleFile_headerHolds_48 (by decide) (fun hc => ?_) (fun hc => ?_)
          · have hF := xx_ip hc hF
            exact zw_ModuleFile_headerHolds_b128 C hA hK  u3 _ _ _ hF (lv_sub hl [] rfl) hP hD hS
          · have hF := xx_in' hc hF
            refine lv_aload_n hx hb zd_ModuleFile_headerHolds_51 rfl (lv_at hl 0 rfl) ?_
            refine xx_get C ki_ModuleFile hK hP 8 rfl rfl 3 (by decide) kw_95 rfl rfl zd_ModuleFile_headerHolds_52 ?_
            refine lv_bipush (v := (24 : Int32)) hx hb zd_ModuleFile_headerHolds_55 (by decide) ?_
            obtain ⟨v6, u5, eu5, hF⟩ := xx_b2_some hF
            refine xx_callS (n := 2) (As := [.int (u3.1 8), .int (24 : Int32)]) (rest := []) C (zc_ModuleFile_isUpTo l g u3 (u3.1 8) (24 : Int32) v6 u5 eu5) ⟨kw_522, kw_520, kw_521, kw_5⟩ ⟨by decide +kernel, by decide +kernel, by decide +kernel⟩ rfl ⟨Nat.le_of_ble_eq_true rfl, Nat.le_of_ble_eq_true rfl⟩ hl.1 rfl (Nat.le_of_ble_eq_true rfl) hA hK hP hD hS ⟨Nat.le_refl _, Nat.le_refl _⟩ rfl rfl rfl zd_ModuleFile_headerHolds_57 (fun H locs hP hD hS => ?_)
            refine lv_if_eq (tgt := 128) hx hb zd_ModuleFile_headerHolds_60 (by decide) (fun hc => ?_) (fun hc => ?_)
            · have hF := xx_ip hc hF
              exact zw_ModuleFile_headerHolds_b128 C hA hK  u5 _ _ _ hF (lv_sub hl [] rfl) hP hD hS
            · have hF := xx_in' hc hF
              refine lv_aload_n hx hb zd_ModuleFile_headerHolds_63 rfl (lv_at hl 0 rfl) ?_
              refine xx_get C ki_ModuleFile hK hP 8 rfl rfl 4 (by decide) kw_97 rfl rfl zd_ModuleFile_headerHolds_64 ?_
              refine lv_iconst (v := (-1 : Int32)) hx hb zd_ModuleFile_headerHolds_67 (by decide) ?_
              refine lv_icmp_eq (tgt := 82) hx hb zd_ModuleFile_headerHolds_68 (by decide) (fun hc => ?_) (fun hc => ?_)
              · have hF := xx_ip hc hF
                exact zw_ModuleFile_headerHolds_b82 C hA hK  u5 _ _ _ hF (lv_sub hl [0] rfl) hP hD hS
              · have hF := xx_in' hc hF
                refine lv_aload_n hx hb zd_ModuleFile_headerHolds_71 rfl (lv_at hl 0 rfl) ?_
                refine lv_aload_n hx hb zd_ModuleFile_headerHolds_72 rfl (lv_at hl 0 rfl) ?_
                refine xx_get C ki_ModuleFile hK hP 8 rfl rfl 4 (by decide) kw_97 rfl rfl zd_ModuleFile_headerHolds_73 ?_
                obtain ⟨v8, u7, eu7, hF⟩ := xx_b2_some hF
                refine xx_callV (n := 1) (As := [.int (u5.1 9)]) (rest := []) C (zc_ModuleFile_isOffset l g u5 (u5.1 9) v8 u7 eu7) ⟨kw_526, kw_523, kw_525, ks_ModuleFile_isOffset, kw_5⟩ ⟨by decide +kernel, by decide +kernel, by decide +kernel⟩ rfl ⟨Nat.le_of_ble_eq_true rfl, Nat.le_of_ble_eq_true rfl⟩ 8 rfl rfl hl.1 rfl (Nat.le_of_ble_eq_true rfl) hA hK hP hD hS ⟨Nat.le_refl _, Nat.le_refl _⟩ rfl rfl rfl zd_ModuleFile_headerHolds_76 (fun H locs hP hD hS => ?_)
                refine lv_if_eq (tgt := 128) hx hb zd_ModuleFile_headerHolds_79 (by decide) (fun hc => ?_) (fun hc => ?_)
                · have hF := xx_ip hc hF
                  exact zw_ModuleFile_headerHolds_b128 C hA hK  u7 _ _ _ hF (lv_sub hl [] rfl) hP hD hS
                · have hF := xx_in' hc hF
                  exact zw_ModuleFile_headerHolds_b82 C hA hK  u7 _ _ _ hF (lv_sub hl [0] rfl) hP hD hS
