set_option maxRecDepth 100000 in
theorem kw_1100 : Cond.code ky_Model_step kb_Model_step 10 (some .int) ∈ xx_tb := xx_in (List.mem_append_right _ (List.mem_of_getElem? (i := 1100) (by rfl))) (by decide +kernel)
theorem kw_1097 : Cond.methodLink "ModuleLoaderModel" 194 ky_Model_step ∈ xx_tb := xx_in (List.mem_append_right _ (List.mem_of_getElem? (i := 1097) (by decide +kernel))) (by decide +kernel)
theorem kw_1099 : Cond.instanceMethod ky_Model_step ∈ xx_tb := xx_in (List.mem_append_right _ (List.mem_of_getElem? (i := 1099) (by decide +kernel))) (by decide +kernel)
theorem ks_Model_step : Cond.selects "ModuleLoaderModel" ky_Model_step ky_Model_step ∈ xx_tb := xx_in (List.mem_append_left _ (by decide +kernel)) (by decide +kernel)
theorem qd_Model_runs_0 : decode kb_Model_runs 0 = .ok (.iconst 0, 1) := by decide +kernel
theorem qd_Model_runs_1 : decode kb_Model_runs 1 = .ok (.istore 5, 2) := by decide +kernel
theorem qd_Model_runs_3 : decode kb_Model_runs 3 = .ok (.iload 5, 2) := by decide +kernel
theorem qd_Model_runs_5 : decode kb_Model_runs 5 = .ok (.bipush (32), 2) := by decide +kernel
theorem qd_Model_runs_7 : decode kb_Model_runs 7 = .ok (.if_icmp .ge (17), 3) := by decide +kernel
theorem qd_Model_runs_10 : decode kb_Model_runs 10 = .ok (.aload_n 0, 1) := by decide +kernel
theorem qd_Model_runs_11 : decode kb_Model_runs 11 = .ok (.getfield 54, 3) := by decide +kernel
theorem qd_Model_runs_14 : decode kb_Model_runs 14 = .ok (.iload 5, 2) := by decide +kernel
theorem qd_Model_runs_16 : decode kb_Model_runs 16 = .ok (.iconst 0, 1) := by decide +kernel
theorem qd_Model_runs_17 : decode kb_Model_runs 17 = .ok (.iastore, 1) := by decide +kernel
theorem qd_Model_runs_18 : decode kb_Model_runs 18 = .ok (.iinc 5 (1), 3) := by decide +kernel
theorem qd_Model_runs_21 : decode kb_Model_runs 21 = .ok (.goto (-18), 3) := by decide +kernel
theorem qd_Model_runs_24 : decode kb_Model_runs 24 = .ok (.aload_n 0, 1) := by decide +kernel
theorem qd_Model_runs_25 : decode kb_Model_runs 25 = .ok (.getfield 54, 3) := by decide +kernel
theorem qd_Model_runs_28 : decode kb_Model_runs 28 = .ok (.iconst 1, 1) := by decide +kernel
theorem qd_Model_runs_29 : decode kb_Model_runs 29 = .ok (.bipush (-4), 2) := by decide +kernel
theorem qd_Model_runs_31 : decode kb_Model_runs 31 = .ok (.iastore, 1) := by decide +kernel
theorem qd_Model_runs_32 : decode kb_Model_runs 32 = .ok (.aload_n 0, 1) := by decide +kernel
theorem qd_Model_runs_33 : decode kb_Model_runs 33 = .ok (.getfield 54, 3) := by decide +kernel
theorem qd_Model_runs_36 : decode kb_Model_runs 36 = .ok (.iconst 2, 1) := by decide +kernel
theorem qd_Model_runs_37 : decode kb_Model_runs 37 = .ok (.sipush (4096), 3) := by decide +kernel
theorem qd_Model_runs_40 : decode kb_Model_runs 40 = .ok (.iastore, 1) := by decide +kernel
theorem qd_Model_runs_41 : decode kb_Model_runs 41 = .ok (.aload_n 0, 1) := by decide +kernel
theorem qd_Model_runs_42 : decode kb_Model_runs 42 = .ok (.getfield 54, 3) := by decide +kernel
theorem qd_Model_runs_45 : decode kb_Model_runs 45 = .ok (.bipush (10), 2) := by decide +kernel
theorem qd_Model_runs_47 : decode kb_Model_runs 47 = .ok (.iload_n 2, 1) := by decide +kernel
theorem qd_Model_runs_48 : decode kb_Model_runs 48 = .ok (.iastore, 1) := by decide +kernel
theorem qd_Model_runs_49 : decode kb_Model_runs 49 = .ok (.aload_n 0, 1) := by decide +kernel
theorem qd_Model_runs_50 : decode kb_Model_runs 50 = .ok (.getfield 54, 3) := by decide +kernel
theorem qd_Model_runs_53 : decode kb_Model_runs 53 = .ok (.bipush (11), 2) := by decide +kernel
theorem qd_Model_runs_55 : decode kb_Model_runs 55 = .ok (.iload_n 3, 1) := by decide +kernel
theorem qd_Model_runs_56 : decode kb_Model_runs 56 = .ok (.iastore, 1) := by decide +kernel
theorem qd_Model_runs_57 : decode kb_Model_runs 57 = .ok (.aload_n 0, 1) := by decide +kernel
theorem qd_Model_runs_58 : decode kb_Model_runs 58 = .ok (.iload_n 1, 1) := by decide +kernel
theorem qd_Model_runs_59 : decode kb_Model_runs 59 = .ok (.putfield 191, 3) := by decide +kernel
theorem qd_Model_runs_62 : decode kb_Model_runs 62 = .ok (.aload_n 0, 1) := by decide +kernel
theorem qd_Model_runs_63 : decode kb_Model_runs 63 = .ok (.getfield 191, 3) := by decide +kernel
theorem qd_Model_runs_66 : decode kb_Model_runs 66 = .ok (.bipush (-4), 2) := by decide +kernel
theorem qd_Model_runs_68 : decode kb_Model_runs 68 = .ok (.if_icmp .eq (48), 3) := by decide +kernel
theorem qd_Model_runs_71 : decode kb_Model_runs 71 = .ok (.aload_n 0, 1) := by decide +kernel
theorem qd_Model_runs_72 : decode kb_Model_runs 72 = .ok (.getfield 149, 3) := by decide +kernel
theorem qd_Model_runs_75 : decode kb_Model_runs 75 = .ok (.iload 4, 2) := by decide +kernel
theorem qd_Model_runs_77 : decode kb_Model_runs 77 = .ok (.if_icmp .ne (5), 3) := by decide +kernel
theorem qd_Model_runs_80 : decode kb_Model_runs 80 = .ok (.iconst 0, 1) := by decide +kernel
theorem qd_Model_runs_81 : decode kb_Model_runs 81 = .ok (.ireturn, 1) := by decide +kernel
theorem qd_Model_runs_82 : decode kb_Model_runs 82 = .ok (.aload_n 0, 1) := by decide +kernel
theorem qd_Model_runs_83 : decode kb_Model_runs 83 = .ok (.dup, 1) := by decide +kernel
theorem qd_Model_runs_84 : decode kb_Model_runs 84 = .ok (.getfield 149, 3) := by decide +kernel
theorem qd_Model_runs_87 : decode kb_Model_runs 87 = .ok (.iconst 1, 1) := by decide +kernel
theorem qd_Model_runs_88 : decode kb_Model_runs 88 = .ok (.iadd, 1) := by decide +kernel
theorem qd_Model_runs_89 : decode kb_Model_runs 89 = .ok (.putfield 149, 3) := by decide +kernel
theorem qd_Model_runs_92 : decode kb_Model_runs 92 = .ok (.aload_n 0, 1) := by decide +kernel
theorem qd_Model_runs_93 : decode kb_Model_runs 93 = .ok (.aload_n 0, 1) := by decide +kernel
theorem qd_Model_runs_94 : decode kb_Model_runs 94 = .ok (.invokevirtual 194, 3) := by decide +kernel
theorem qd_Model_runs_97 : decode kb_Model_runs 97 = .ok (.putfield 146, 3) := by decide +kernel
theorem qd_Model_runs_100 : decode kb_Model_runs 100 = .ok (.aload_n 0, 1) := by decide +kernel
theorem qd_Model_runs_101 : decode kb_Model_runs 101 = .ok (.getfield 54, 3) := by decide +kernel
theorem qd_Model_runs_104 : decode kb_Model_runs 104 = .ok (.iconst 0, 1) := by decide +kernel
theorem qd_Model_runs_105 : decode kb_Model_runs 105 = .ok (.iconst 0, 1) := by decide +kernel
theorem qd_Model_runs_106 : decode kb_Model_runs 106 = .ok (.iastore, 1) := by decide +kernel
theorem qd_Model_runs_107 : decode kb_Model_runs 107 = .ok (.aload_n 0, 1) := by decide +kernel
theorem qd_Model_runs_108 : decode kb_Model_runs 108 = .ok (.getfield 146, 3) := by decide +kernel
theorem qd_Model_runs_111 : decode kb_Model_runs 111 = .ok (.ifCond .le (-49), 3) := by decide +kernel
theorem qd_Model_runs_114 : decode kb_Model_runs 114 = .ok (.iconst 0, 1) := by decide +kernel
theorem qd_Model_runs_115 : decode kb_Model_runs 115 = .ok (.ireturn, 1) := by decide +kernel
theorem qd_Model_runs_116 : decode kb_Model_runs 116 = .ok (.aload_n 0, 1) := by decide +kernel
theorem qd_Model_runs_117 : decode kb_Model_runs 117 = .ok (.aload_n 0, 1) := by decide +kernel
theorem qd_Model_runs_118 : decode kb_Model_runs 118 = .ok (.getfield 54, 3) := by decide +kernel
theorem qd_Model_runs_121 : decode kb_Model_runs 121 = .ok (.bipush (10), 2) := by decide +kernel
theorem qd_Model_runs_123 : decode kb_Model_runs 123 = .ok (.iaload, 1) := by decide +kernel
theorem qd_Model_runs_124 : decode kb_Model_runs 124 = .ok (.putfield 152, 3) := by decide +kernel
theorem qd_Model_runs_127 : decode kb_Model_runs 127 = .ok (.iconst 1, 1) := by decide +kernel
theorem qd_Model_runs_128 : decode kb_Model_runs 128 = .ok (.ireturn, 1) := by decide +kernel
def qf_Model_runs_b62 : Nat → qm_S → Int32 → Option (Int32 × qm_S)
  | 0, _, _ => none
  | n + 1, u, x4 => if (u.1 30) = (-4 : Int32) then ((xx_ag (u.2 14) 32 (10 : Int32)).bind fun v1 => xx_nm (va_up u.1 21 v1, u.2) fun u2 => some (vp_nar .boolean (1 : Int32), u2)) else (if (u.1 20) = x4 then (some (vp_nar .boolean (0 : Int32), u)) else (xx_nm ((u.1 20) + (1 : Int32)) fun v3 => xx_nm (va_up u.1 20 v3, u.2) fun u4 => xx_b2 (qf_Model_step u4) fun v6 u5 => xx_nm (va_up u5.1 19 v6, u5.2) fun u7 => (xx_as (u7.2 14) 32 (0 : Int32) (0 : Int32)).bind fun f8 => xx_nm (u7.1, va_up u7.2 14 f8) fun u9 => if (u9.1 19) ≤ 0 then ((qf_Model_runs_b62 n) u9 x4) else (some (vp_nar .boolean (0 : Int32), u9))))
def qf_Model_runs_b3 : Nat → qm_S → Int32 → Int32 → Int32 → Int32 → Int32 → Option (Int32 × qm_S)
  | 0, _, _, _, _, _, _ => none
  | n + 1, u, x1, x2, x3, x4, x5 => if (32 : Int32) ≤ x5 then ((xx_as (u.2 14) 32 (1 : Int32) (-4 : Int32)).bind fun f1 => xx_nm (u.1, va_up u.2 14 f1) fun u2 => (xx_as (u2.2 14) 32 (2 : Int32) (4096 : Int32)).bind fun f3 => xx_nm (u2.1, va_up u2.2 14 f3) fun u4 => (xx_as (u4.2 14) 32 (10 : Int32) x2).bind fun f5 => xx_nm (u4.1, va_up u4.2 14 f5) fun u6 => (xx_as (u6.2 14) 32 (11 : Int32) x3).bind fun f7 => xx_nm (u6.1, va_up u6.2 14 f7) fun u8 => xx_nm (va_up u8.1 30 x1, u8.2) fun u9 => qf_Model_runs_b62 xx_fu u9 x4) else ((xx_as (u.2 14) 32 x5 (0 : Int32)).bind fun f10 => xx_nm (u.1, va_up u.2 14 f10) fun u11 => xx_nm (x5 + (1 : Int32)) fun v12 => (qf_Model_runs_b3 n) u11 x1 x2 x3 x4 v12)
def qf_Model_runs (u : qm_S) (x1 : Int32) (x2 : Int32) (x3 : Int32) (x4 : Int32) : Option (Int32 × qm_S) := xx_nm (0 : Int32) fun v1 => qf_Model_runs_b3 xx_fu u x1 x2 x3 x4 v1
set_option maxHeartbeats 4000000 in
set_option maxRecDepth 100000 in
theorem qw_Model_runs_b62 {p : Program} {l : Launch} {e : Env} {s : State} {m : MethodId} {args : Array Value} {below : List Frame} {meth : Method} {c : Code} {A : Nat → Prop} {g : xx_G} {r : Int32} {u9 : qm_S} (C : xx_C p s m args meth c kb_Model_runs 6 kr_Model (some .boolean)) (hA : ∀ q, s.heap.size ≤ q → A q) (hK : va_K g.1 xx_cls (qm_T g) s) : ∀ (n : Nat), ∀ (u : qm_S) (x4 : Int32) (H : Heap) (locs : List Loc) (ls : Array Slot), qf_Model_runs_b62 n u x4 = some (r, u9) → lv_has ls 6 [(0, .ref (g.2.1 0)), (4, .int x4)] → va_P g.1 xx_cls (qm_W g u) H → va_D A (qm_W g u) → va_S A s.heap H locs → W p l e (xx_rm 3 79) s m args below meth c H locs 0 0 (MQ below (xx_Q g.1 (qm_T g) (qm_W g) (some (.int r)) u9 A) args s 0 0 A) (F0 m 62 ls []) := by
  have hx := C.1
  have hb := C.2.1
  have hown := C.2.2.2.1
  have hts := C.2.2.2.2.1
  intro n
  induction n with
  | zero =>
    intro u x4 H locs ls hF
    rw [qf_Model_runs_b62] at hF
    cases hF
  | succ n ih =>
    intro u x4 H locs ls hF hl hP hD hS
    rw [qf_Model_runs_b62] at hF
    refine lv_aload_n hx hb qd_Model_runs_62 rfl (lv_at hl 0 rfl) ?_
    refine xx_get C ki_Model hK hP 0 rfl rfl 30 (by decide) kw_903 rfl rfl qd_Model_runs_63 ?_
    refine lv_bipush (v := (-4 : Int32)) hx hb qd_Model_runs_66 (by decide) ?_
    refine lv_icmp_eq (tgt := 116) hx hb qd_Model_runs_68 (by decide) (fun hc => ?_) (fun hc => ?_)
    · have hF := xx_ip hc hF
      refine lv_aload_n hx hb qd_Model_runs_116 rfl (lv_at hl 0 rfl) ?_
      refine lv_aload_n hx hb qd_Model_runs_117 rfl (lv_at hl 0 rfl) ?_
      refine xx_get C ki_Model hK hP 0 rfl rfl 22 (by decide) kw_895 rfl rfl qd_Model_runs_118 ?_
      refine lv_bipush (v := (10 : Int32)) hx hb qd_Model_runs_121 (by decide) ?_
      obtain ⟨v1, ev1, hF⟩ := xx_ob hF
      refine xx_iald C hK hP 14 0 rfl rfl ev1 qd_Model_runs_123 ?_
      obtain ⟨u2, eu2, hF⟩ := xx_nm_some hF
      refine xx_put (ws1 := qm_W g u2) C ki_Model kt_Model ko_Model kn_Model hK hP hD hS 0 rfl rfl 21 (by decide) kw_894 rfl rfl rfl rfl (Nat.le_of_ble_eq_true rfl) (by rw [eu2]; rfl) qd_Model_runs_124 (fun H locs hP hD hS => ?_)
      refine lv_iconst (v := (1 : Int32)) hx hb qd_Model_runs_127 (by decide) ?_
      exact xx_zret C hF hK hP hD hS qd_Model_runs_128
    · have hF := xx_in' hc hF
      refine lv_aload_n hx hb qd_Model_runs_71 rfl (lv_at hl 0 rfl) ?_
      refine xx_get C ki_Model hK hP 0 rfl rfl 20 (by decide) kw_893 rfl rfl qd_Model_runs_72 ?_
      refine lv_iload hx hb qd_Model_runs_75 (lv_at hl 1 rfl) ?_
      refine lv_icmp_ne (tgt := 82) hx hb qd_Model_runs_77 (by decide) (fun hc => ?_) (fun hc => ?_)
      · have hF := xx_in' hc hF
        refine lv_aload_n hx hb qd_Model_runs_82 rfl (lv_at hl 0 rfl) ?_
        refine lv_dup hx hb qd_Model_runs_83 rfl ?_
        refine xx_get C ki_Model hK hP 0 rfl rfl 20 (by decide) kw_893 rfl rfl qd_Model_runs_84 ?_
        refine lv_iconst (v := (1 : Int32)) hx hb qd_Model_runs_87 (by decide) ?_
        refine lv_iadd hx hb qd_Model_runs_88 ?_
        obtain ⟨v3, ev3, hF⟩ := xx_nm_some hF
        refine xx_topi ev3 ?_
        obtain ⟨u4, eu4, hF⟩ := xx_nm_some hF
        refine xx_put (ws1 := qm_W g u4) C ki_Model kt_Model ko_Model kn_Model hK hP hD hS 0 rfl rfl 20 (by decide) kw_893 rfl rfl rfl rfl (Nat.le_of_ble_eq_true rfl) (by rw [eu4]; rfl) qd_Model_runs_89 (fun H locs hP hD hS => ?_)
        refine lv_aload_n hx hb qd_Model_runs_92 rfl (lv_at hl 0 rfl) ?_
        refine lv_aload_n hx hb qd_Model_runs_93 rfl (lv_at hl 0 rfl) ?_
        obtain ⟨v6, u5, eu5, hF⟩ := xx_b2_some hF
        refine xx_callV (n := 0) (As := []) (rest := [.ref (g.2.1 0)]) C (qc_Model_step l g u4 v6 u5 eu5) ⟨kw_1100, kw_1097, kw_1099, ks_Model_step, kw_9⟩ ⟨by decide +kernel, by decide +kernel, by decide +kernel⟩ rfl ⟨Nat.le_of_ble_eq_true rfl, Nat.le_of_ble_eq_true rfl⟩ 0 rfl rfl hl.1 rfl (Nat.le_of_ble_eq_true rfl) hA hK hP hD hS ⟨Nat.le_refl _, Nat.le_refl _⟩ rfl rfl rfl qd_Model_runs_94 (fun H locs hP hD hS => ?_)
        obtain ⟨u7, eu7, hF⟩ := xx_nm_some hF
        refine xx_put (ws1 := qm_W g u7) C ki_Model kt_Model ko_Model kn_Model hK hP hD hS 0 rfl rfl 19 (by decide) kw_892 rfl rfl rfl rfl (Nat.le_of_ble_eq_true rfl) (by rw [eu7]; rfl) qd_Model_runs_97 (fun H locs hP hD hS => ?_)
        refine lv_aload_n hx hb qd_Model_runs_100 rfl (lv_at hl 0 rfl) ?_
        refine xx_get C ki_Model hK hP 0 rfl rfl 22 (by decide) kw_895 rfl rfl qd_Model_runs_101 ?_
        refine lv_iconst (v := (0 : Int32)) hx hb qd_Model_runs_104 (by decide) ?_
        refine lv_iconst (v := (0 : Int32)) hx hb qd_Model_runs_105 (by decide) ?_
        obtain ⟨f8, ef8, hF⟩ := xx_ob hF
        obtain ⟨u9, eu9, hF⟩ := xx_nm_some hF
        refine xx_iast (ws1 := qm_W g u9) C hK hP hD hS 14 0 rfl rfl ef8 (by rw [eu9]; rfl) qd_Model_runs_106 (fun H locs hP hD hS => ?_)
        refine lv_aload_n hx hb qd_Model_runs_107 rfl (lv_at hl 0 rfl) ?_
        refine xx_get C ki_Model hK hP 0 rfl rfl 19 (by decide) kw_892 rfl rfl qd_Model_runs_108 ?_
        refine lv_if_le (tgt := 62) hx hb qd_Model_runs_111 (by decide) (fun hc => ?_) (fun hc => ?_)
        · have hF := xx_ip hc hF
          exact ih u9 x4 _ _ _ hF (lv_sub hl [0, 1] rfl) hP hD hS
        · have hF := xx_in' hc hF
          refine lv_iconst (v := (0 : Int32)) hx hb qd_Model_runs_114 (by decide) ?_
          exact xx_zret C hF hK hP hD hS qd_Model_runs_115
      · have hF := xx_ip hc hF
        refine lv_iconst (v := (0 : Int32)) hx hb qd_Model_runs_80 (by decide) ?_
        exact xx_zret C hF hK hP hD hS qd_Model_runs_81
set_option maxHeartbeats 4000000 in
set_option maxRecDepth 100000 in
theorem qw_Model_runs_b3 {p : Program} {l : Launch} {e : Env} {s : State} {m : MethodId} {args : Array Value} {below : List Frame} {meth : Method} {c : Code} {A : Nat → Prop} {g : xx_G} {r : Int32} {u9 : qm_S} (C : xx_C p s m args meth c kb_Model_runs 6 kr_Model (some .boolean)) (hA : ∀ q, s.heap.size ≤ q → A q) (hK : va_K g.1 xx_cls (qm_T g) s) : ∀ (n : Nat), ∀ (u : qm_S) (x1 : Int32) (x2 : Int32) (x3 : Int32) (x4 : Int32) (x5 : Int32) (H : Heap) (locs : List Loc) (ls : Array Slot), qf_Model_runs_b3 n u x1 x2 x3 x4 x5 = some (r, u9) → lv_has ls 6 [(0, .ref (g.2.1 0)), (1, .int x1), (2, .int x2), (3, .int x3), (4, .int x4), (5, .int x5)] → va_P g.1 xx_cls (qm_W g u) H → va_D A (qm_W g u) → va_S A s.heap H locs → W p l e (xx_rm 3 79) s m args below meth c H locs 0 0 (MQ below (xx_Q g.1 (qm_T g) (qm_W g) (some (.int r)) u9 A) args s 0 0 A) (F0 m 3 ls []) := by
  have hx := C.1
  have hb := C.2.1
  have hown := C.2.2.2.1
  have hts := C.2.2.2.2.1
  intro n
  induction n with
  | zero =>
    intro u x1 x2 x3 x4 x5 H locs ls hF
    rw [qf_Model_runs_b3] at hF
    cases hF
  | succ n ih =>
    intro u x1 x2 x3 x4 x5 H locs ls hF hl hP hD hS
    rw [qf_Model_runs_b3] at hF
    refine lv_iload hx hb qd_Model_runs_3 (lv_at hl 5 rfl) ?_
    refine lv_bipush (v := (32 : Int32)) hx hb qd_Model_runs_5 (by decide) ?_
    refine lv_icmp_ge (tgt := 24) hx hb qd_Model_runs_7 (by decide) (fun hc => ?_) (fun hc => ?_)
    · have hF := xx_ip hc hF
      refine lv_aload_n hx hb qd_Model_runs_24 rfl (lv_at hl 0 rfl) ?_
      refine xx_get C ki_Model hK hP 0 rfl rfl 22 (by decide) kw_895 rfl rfl qd_Model_runs_25 ?_
      refine lv_iconst (v := (1 : Int32)) hx hb qd_Model_runs_28 (by decide) ?_
      refine lv_bipush (v := (-4 : Int32)) hx hb qd_Model_runs_29 (by decide) ?_
      obtain ⟨f1, ef1, hF⟩ := xx_ob hF
      obtain ⟨u2, eu2, hF⟩ := xx_nm_some hF
      refine xx_iast (ws1 := qm_W g u2) C hK hP hD hS 14 0 rfl rfl ef1 (by rw [eu2]; rfl) qd_Model_runs_31 (fun H locs hP hD hS => ?_)
      refine lv_aload_n hx hb qd_Model_runs_32 rfl (lv_at hl 0 rfl) ?_
      refine xx_get C ki_Model hK hP 0 rfl rfl 22 (by decide) kw_895 rfl rfl qd_Model_runs_33 ?_
      refine lv_iconst (v := (2 : Int32)) hx hb qd_Model_runs_36 (by decide) ?_
      refine lv_sipush (v := (4096 : Int32)) hx hb qd_Model_runs_37 (by decide) ?_
      obtain ⟨f3, ef3, hF⟩ := xx_ob hF
      obtain ⟨u4, eu4, hF⟩ := xx_nm_some hF
      refine xx_iast (ws1 := qm_W g u4) C hK hP hD hS 14 0 rfl rfl ef3 (by rw [eu4]; rfl) qd_Model_runs_40 (fun H locs hP hD hS => ?_)
      refine lv_aload_n hx hb qd_Model_runs_41 rfl (lv_at hl 0 rfl) ?_
      refine xx_get C ki_Model hK hP 0 rfl rfl 22 (by decide) kw_895 rfl rfl qd_Model_runs_42 ?_
      refine lv_bipush (v := (10 : Int32)) hx hb qd_Model_runs_45 (by decide) ?_
      refine lv_iload_n hx hb qd_Model_runs_47 rfl (lv_at hl 2 rfl) ?_
      obtain ⟨f5, ef5, hF⟩ := xx_ob hF
      obtain ⟨u6, eu6, hF⟩ := xx_nm_some hF
      refine xx_iast (ws1 := qm_W g u6) C hK hP hD hS 14 0 rfl rfl ef5 (by rw [eu6]; rfl) qd_Model_runs_48 (fun H locs hP hD hS => ?_)
      refine lv_aload_n hx hb qd_Model_runs_49 rfl (lv_at hl 0 rfl) ?_
      refine xx_get C ki_Model hK hP 0 rfl rfl 22 (by decide) kw_895 rfl rfl qd_Model_runs_50 ?_
      refine lv_bipush (v := (11 : Int32)) hx hb qd_Model_runs_53 (by decide) ?_
      refine lv_iload_n hx hb qd_Model_runs_55 rfl (lv_at hl 3 rfl) ?_
      obtain ⟨f7, ef7, hF⟩ := xx_ob hF
      obtain ⟨u8, eu8, hF⟩ := xx_nm_some hF
      refine xx_iast (ws1 := qm_W g u8) C hK hP hD hS 14 0 rfl rfl ef7 (by rw [eu8]; rfl) qd_Model_runs_56 (fun H locs hP hD hS => ?_)
      refine lv_aload_n hx hb qd_Model_runs_57 rfl (lv_at hl 0 rfl) ?_
      refine lv_iload_n hx hb qd_Model_runs_58 rfl (lv_at hl 1 rfl) ?_
      obtain ⟨u9, eu9, hF⟩ := xx_nm_some hF
      refine xx_put (ws1 := qm_W g u9) C ki_Model kt_Model ko_Model kn_Model hK hP hD hS 0 rfl rfl 30 (by decide) kw_903 rfl rfl rfl rfl (Nat.le_of_ble_eq_true rfl) (by rw [eu9]; rfl) qd_Model_runs_59 (fun H locs hP hD hS => ?_)
      exact qw_Model_runs_b62 C hA hK xx_fu u9 x4 _ _ _ hF (lv_sub hl [0, 4] rfl) hP hD hS
    · have hF := xx_in' hc hF
      refine lv_aload_n hx hb qd_Model_runs_10 rfl (lv_at hl 0 rfl) ?_
      refine xx_get C ki_Model hK hP 0 rfl rfl 22 (by decide) kw_895 rfl rfl qd_Model_runs_11 ?_
      refine lv_iload hx hb qd_Model_runs_14 (lv_at hl 5 rfl) ?_
      refine lv_iconst (v := (0 : Int32)) hx hb qd_Model_runs_16 (by decide) ?_
      obtain ⟨f10, ef10, hF⟩ := xx_ob hF
      obtain ⟨u11, eu11, hF⟩ := xx_nm_some hF
      refine xx_iast (ws1 := qm_W g u11) C hK hP hD hS 14 0 rfl rfl ef10 (by rw [eu11]; rfl) qd_Model_runs_17 (fun H locs hP hD hS => ?_)
      obtain ⟨v12, ev12, hF⟩ := xx_nm_some hF
      refine lv_iinc (k := 5) (v := v12) hx hb qd_Model_runs_18 hl rfl (by rw [ev12, xx_lit1]) (by decide) rfl (fun ls hl => ?_)
      refine lv_goto (tgt := 3) hx hb qd_Model_runs_21 (by decide) ?_
      exact ih u11 x1 x2 x3 x4 v12 _ _ _ hF (lv_sub hl [1, 2, 3, 4, 5, 0] rfl) hP hD hS
set_option maxHeartbeats 4000000 in
set_option maxRecDepth 100000 in
theorem qc_Model_runs (l : Launch) (g : xx_G) (u : qm_S) (x1 : Int32) (x2 : Int32) (x3 : Int32) (x4 : Int32) (r : Int32) (u9 : qm_S) (hF : qf_Model_runs u x1 x2 x3 x4 = some (r, u9)) : xx_M l g.1 (qm_T g) (qm_W g) ky_Model_runs kb_Model_runs 6 (some .boolean) (xx_rm 3 79) [.ref (g.2.1 0), .int x1, .int x2, .int x3, .int x4] u (some (.int r)) u9 := by
  refine xx_body (by decide) (Nat.le_of_ble_eq_true rfl) ?_
  intro p e s m args below meth c A ls C hin hK hl hA hP hD hS
  have hx := C.1
  have hb := C.2.1
  have hown := C.2.2.2.1
  have hts := C.2.2.2.2.1
  have hl : lv_has ls 6 [(0, .ref (g.2.1 0)), (1, .int x1), (2, .int x2), (3, .int x3), (4, .int x4)] := hl
  unfold qf_Model_runs at hF
  refine lv_iconst (v := (0 : Int32)) hx hb qd_Model_runs_0 (by decide) ?_
  obtain ⟨v1, ev1, hF⟩ := xx_nm_some hF
  refine xx_topi ev1 ?_
  refine lv_istore hx hb qd_Model_runs_1 hl (by decide) rfl (fun ls hl => ?_)
  exact qw_Model_runs_b3 C hA hK xx_fu u x1 x2 x3 x4 v1 _ _ _ hF (lv_sub hl [1, 2, 3, 4, 5, 0] rfl) hP hD hS
set_option maxRecDepth 100000 in
theorem kw_1132 : Cond.code ky_Model_remove kb_Model_remove 4 none ∈ xx_tb := xx_in (List.mem_append_right _ (List.mem_of_getElem? (i := 1132) (by rfl))) (by decide +kernel)
theorem kw_1129 : Cond.methodLink "ModuleLoaderModel" 184 ky_Model_remove ∈ xx_tb := xx_in (List.mem_append_right _ (List.mem_of_getElem? (i := 1129) (by decide +kernel))) (by decide +kernel)
theorem kw_1131 : Cond.instanceMethod ky_Model_remove ∈ xx_tb := xx_in (List.mem_append_right _ (List.mem_of_getElem? (i := 1131) (by decide +kernel))) (by decide +kernel)
theorem ks_Model_remove : Cond.selects "ModuleLoaderModel" ky_Model_remove ky_Model_remove ∈ xx_tb := xx_in (List.mem_append_left _ (by decide +kernel)) (by decide +kernel)
set_option maxRecDepth 100000 in
theorem kw_1096 : Cond.code ky_Model_runs kb_Model_runs 6 (some .boolean) ∈ xx_tb := xx_in (List.mem_append_right _ (List.mem_of_getElem? (i := 1096) (by rfl))) (by decide +kernel)
theorem kw_1093 : Cond.methodLink "ModuleLoaderModel" 180 ky_Model_runs ∈ xx_tb := xx_in (List.mem_append_right _ (List.mem_of_getElem? (i := 1093) (by decide +kernel))) (by decide +kernel)
theorem kw_1095 : Cond.instanceMethod ky_Model_runs ∈ xx_tb := xx_in (List.mem_append_right _ (List.mem_of_getElem? (i := 1095) (by decide +kernel))) (by decide +kernel)
theorem ks_Model_runs : Cond.selects "ModuleLoaderModel" ky_Model_runs ky_Model_runs ∈ xx_tb := xx_in (List.mem_append_left _ (by decide +kernel)) (by decide +kernel)
theorem kw_886 : Cond.fieldLink "ModuleLoaderModel" 41 "ModuleLoaderModel" "exit" "[I" ∈ xx_tb := xx_in (List.mem_append_right _ (List.mem_of_getElem? (i := 886) (by decide +kernel))) (by decide +kernel)
set_option maxRecDepth 100000 in
theorem kw_1088 : Cond.code ky_Model_mend kb_Model_mend 11 (some .boolean) ∈ xx_tb := xx_in (List.mem_append_right _ (List.mem_of_getElem? (i := 1088) (by rfl))) (by decide +kernel)
theorem kw_1085 : Cond.methodLink "ModuleLoaderModel" 177 ky_Model_mend ∈ xx_tb := xx_in (List.mem_append_right _ (List.mem_of_getElem? (i := 1085) (by decide +kernel))) (by decide +kernel)
theorem kw_1087 : Cond.instanceMethod ky_Model_mend ∈ xx_tb := xx_in (List.mem_append_right _ (List.mem_of_getElem? (i := 1087) (by decide +kernel))) (by decide +kernel)
theorem ks_Model_mend : Cond.selects "ModuleLoaderModel" ky_Model_mend ky_Model_mend ∈ xx_tb := xx_in (List.mem_append_left _ (by decide +kernel)) (by decide +kernel)
theorem qd_Model_bring_0 : decode kb_Model_bring 0 = .ok (.iconst 0, 1) := by decide +kernel
theorem qd_Model_bring_1 : decode kb_Model_bring 1 = .ok (.istore 5, 2) := by decide +kernel
theorem qd_Model_bring_3 : decode kb_Model_bring 3 = .ok (.iload 5, 2) := by decide +kernel
theorem qd_Model_bring_5 : decode kb_Model_bring 5 = .ok (.aload_n 0, 1) := by decide +kernel
theorem qd_Model_bring_6 : decode kb_Model_bring 6 = .ok (.getfield 115, 3) := by decide +kernel
theorem qd_Model_bring_9 : decode kb_Model_bring 9 = .ok (.if_icmp .ge (32), 3) := by decide +kernel
theorem qd_Model_bring_12 : decode kb_Model_bring 12 = .ok (.aload_n 0, 1) := by decide +kernel
theorem qd_Model_bring_13 : decode kb_Model_bring 13 = .ok (.iload_n 3, 1) := by decide +kernel
theorem qd_Model_bring_14 : decode kb_Model_bring 14 = .ok (.iload 5, 2) := by decide +kernel
theorem qd_Model_bring_16 : decode kb_Model_bring 16 = .ok (.invokevirtual 177, 3) := by decide +kernel
theorem qd_Model_bring_19 : decode kb_Model_bring 19 = .ok (.ifCond .eq (6), 3) := by decide +kernel
theorem qd_Model_bring_22 : decode kb_Model_bring 22 = .ok (.goto (13), 3) := by decide +kernel
theorem qd_Model_bring_25 : decode kb_Model_bring 25 = .ok (.aload_n 0, 1) := by decide +kernel
theorem qd_Model_bring_26 : decode kb_Model_bring 26 = .ok (.bipush (7), 2) := by decide +kernel
theorem qd_Model_bring_28 : decode kb_Model_bring 28 = .ok (.iload 5, 2) := by decide +kernel
theorem qd_Model_bring_30 : decode kb_Model_bring 30 = .ok (.invokevirtual 139, 3) := by decide +kernel
theorem qd_Model_bring_33 : decode kb_Model_bring 33 = .ok (.pop, 1) := by decide +kernel
theorem qd_Model_bring_34 : decode kb_Model_bring 34 = .ok (.return_, 1) := by decide +kernel
theorem qd_Model_bring_35 : decode kb_Model_bring 35 = .ok (.iinc 5 (1), 3) := by decide +kernel
theorem qd_Model_bring_38 : decode kb_Model_bring 38 = .ok (.goto (-35), 3) := by decide +kernel
theorem qd_Model_bring_41 : decode kb_Model_bring 41 = .ok (.iconst 0, 1) := by decide +kernel
theorem qd_Model_bring_42 : decode kb_Model_bring 42 = .ok (.istore 5, 2) := by decide +kernel
theorem qd_Model_bring_44 : decode kb_Model_bring 44 = .ok (.iload 5, 2) := by decide +kernel
theorem qd_Model_bring_46 : decode kb_Model_bring 46 = .ok (.aload_n 0, 1) := by decide +kernel
theorem qd_Model_bring_47 : decode kb_Model_bring 47 = .ok (.getfield 96, 3) := by decide +kernel
theorem qd_Model_bring_50 : decode kb_Model_bring 50 = .ok (.if_icmp .ge (28), 3) := by decide +kernel
theorem qd_Model_bring_53 : decode kb_Model_bring 53 = .ok (.aload_n 0, 1) := by decide +kernel
theorem qd_Model_bring_54 : decode kb_Model_bring 54 = .ok (.getfield 7, 3) := by decide +kernel
theorem qd_Model_bring_57 : decode kb_Model_bring 57 = .ok (.iload_n 3, 1) := by decide +kernel
theorem qd_Model_bring_58 : decode kb_Model_bring 58 = .ok (.iload 5, 2) := by decide +kernel
theorem qd_Model_bring_60 : decode kb_Model_bring 60 = .ok (.iadd, 1) := by decide +kernel
theorem qd_Model_bring_61 : decode kb_Model_bring 61 = .ok (.aload_n 0, 1) := by decide +kernel
theorem qd_Model_bring_62 : decode kb_Model_bring 62 = .ok (.getfield 47, 3) := by decide +kernel
theorem qd_Model_bring_65 : decode kb_Model_bring 65 = .ok (.bipush (32), 2) := by decide +kernel
theorem qd_Model_bring_67 : decode kb_Model_bring 67 = .ok (.iload 5, 2) := by decide +kernel
theorem qd_Model_bring_69 : decode kb_Model_bring 69 = .ok (.iadd, 1) := by decide +kernel
theorem qd_Model_bring_70 : decode kb_Model_bring 70 = .ok (.iaload, 1) := by decide +kernel
theorem qd_Model_bring_71 : decode kb_Model_bring 71 = .ok (.iastore, 1) := by decide +kernel
theorem qd_Model_bring_72 : decode kb_Model_bring 72 = .ok (.iinc 5 (1), 3) := by decide +kernel
theorem qd_Model_bring_75 : decode kb_Model_bring 75 = .ok (.goto (-31), 3) := by decide +kernel
theorem qd_Model_bring_78 : decode kb_Model_bring 78 = .ok (.aload_n 0, 1) := by decide +kernel
theorem qd_Model_bring_79 : decode kb_Model_bring 79 = .ok (.getfield 25, 3) := by decide +kernel
theorem qd_Model_bring_82 : decode kb_Model_bring 82 = .ok (.iload_n 1, 1) := by decide +kernel
theorem qd_Model_bring_83 : decode kb_Model_bring 83 = .ok (.iconst 1, 1) := by decide +kernel
theorem qd_Model_bring_84 : decode kb_Model_bring 84 = .ok (.bastore, 1) := by decide +kernel
theorem qd_Model_bring_85 : decode kb_Model_bring 85 = .ok (.aload_n 0, 1) := by decide +kernel
theorem qd_Model_bring_86 : decode kb_Model_bring 86 = .ok (.getfield 29, 3) := by decide +kernel
theorem qd_Model_bring_89 : decode kb_Model_bring 89 = .ok (.iload_n 1, 1) := by decide +kernel
theorem qd_Model_bring_90 : decode kb_Model_bring 90 = .ok (.iload_n 2, 1) := by decide +kernel
theorem qd_Model_bring_91 : decode kb_Model_bring 91 = .ok (.iastore, 1) := by decide +kernel
theorem qd_Model_bring_92 : decode kb_Model_bring 92 = .ok (.aload_n 0, 1) := by decide +kernel
theorem qd_Model_bring_93 : decode kb_Model_bring 93 = .ok (.getfield 32, 3) := by decide +kernel
theorem qd_Model_bring_96 : decode kb_Model_bring 96 = .ok (.iload_n 1, 1) := by decide +kernel
theorem qd_Model_bring_97 : decode kb_Model_bring 97 = .ok (.iload_n 3, 1) := by decide +kernel
theorem qd_Model_bring_98 : decode kb_Model_bring 98 = .ok (.iastore, 1) := by decide +kernel
theorem qd_Model_bring_99 : decode kb_Model_bring 99 = .ok (.aload_n 0, 1) := by decide +kernel
theorem qd_Model_bring_100 : decode kb_Model_bring 100 = .ok (.getfield 35, 3) := by decide +kernel
theorem qd_Model_bring_103 : decode kb_Model_bring 103 = .ok (.iload_n 1, 1) := by decide +kernel
theorem qd_Model_bring_104 : decode kb_Model_bring 104 = .ok (.aload_n 0, 1) := by decide +kernel
theorem qd_Model_bring_105 : decode kb_Model_bring 105 = .ok (.getfield 96, 3) := by decide +kernel
theorem qd_Model_bring_108 : decode kb_Model_bring 108 = .ok (.iastore, 1) := by decide +kernel
theorem qd_Model_bring_109 : decode kb_Model_bring 109 = .ok (.aload_n 0, 1) := by decide +kernel
theorem qd_Model_bring_110 : decode kb_Model_bring 110 = .ok (.getfield 38, 3) := by decide +kernel
theorem qd_Model_bring_113 : decode kb_Model_bring 113 = .ok (.iload_n 1, 1) := by decide +kernel
theorem qd_Model_bring_114 : decode kb_Model_bring 114 = .ok (.aload_n 0, 1) := by decide +kernel
theorem qd_Model_bring_115 : decode kb_Model_bring 115 = .ok (.getfield 124, 3) := by decide +kernel
theorem qd_Model_bring_118 : decode kb_Model_bring 118 = .ok (.iastore, 1) := by decide +kernel
theorem qd_Model_bring_119 : decode kb_Model_bring 119 = .ok (.aload_n 0, 1) := by decide +kernel
theorem qd_Model_bring_120 : decode kb_Model_bring 120 = .ok (.getfield 41, 3) := by decide +kernel
theorem qd_Model_bring_123 : decode kb_Model_bring 123 = .ok (.iload_n 1, 1) := by decide +kernel
theorem qd_Model_bring_124 : decode kb_Model_bring 124 = .ok (.aload_n 0, 1) := by decide +kernel
theorem qd_Model_bring_125 : decode kb_Model_bring 125 = .ok (.getfield 121, 3) := by decide +kernel
theorem qd_Model_bring_128 : decode kb_Model_bring 128 = .ok (.iastore, 1) := by decide +kernel
theorem qd_Model_bring_129 : decode kb_Model_bring 129 = .ok (.iconst 0, 1) := by decide +kernel
theorem qd_Model_bring_130 : decode kb_Model_bring 130 = .ok (.istore 5, 2) := by decide +kernel
theorem qd_Model_bring_132 : decode kb_Model_bring 132 = .ok (.iload 5, 2) := by decide +kernel
theorem qd_Model_bring_134 : decode kb_Model_bring 134 = .ok (.aload_n 0, 1) := by decide +kernel
theorem qd_Model_bring_135 : decode kb_Model_bring 135 = .ok (.getfield 99, 3) := by decide +kernel
theorem qd_Model_bring_138 : decode kb_Model_bring 138 = .ok (.if_icmp .ge (48), 3) := by decide +kernel
theorem qd_Model_bring_141 : decode kb_Model_bring 141 = .ok (.aload_n 0, 1) := by decide +kernel
theorem qd_Model_bring_142 : decode kb_Model_bring 142 = .ok (.getfield 22, 3) := by decide +kernel
theorem qd_Model_bring_145 : decode kb_Model_bring 145 = .ok (.aload_n 0, 1) := by decide +kernel
theorem qd_Model_bring_146 : decode kb_Model_bring 146 = .ok (.aload_n 0, 1) := by decide +kernel
theorem qd_Model_bring_147 : decode kb_Model_bring 147 = .ok (.aload_n 0, 1) := by decide +kernel
theorem qd_Model_bring_148 : decode kb_Model_bring 148 = .ok (.iload 5, 2) := by decide +kernel
theorem qd_Model_bring_150 : decode kb_Model_bring 150 = .ok (.invokevirtual 102, 3) := by decide +kernel
theorem qd_Model_bring_153 : decode kb_Model_bring 153 = .ok (.invokevirtual 111, 3) := by decide +kernel
theorem qd_Model_bring_156 : decode kb_Model_bring 156 = .ok (.invokevirtual 86, 3) := by decide +kernel
theorem qd_Model_bring_159 : decode kb_Model_bring 159 = .ok (.iaload, 1) := by decide +kernel
theorem qd_Model_bring_160 : decode kb_Model_bring 160 = .ok (.istore 6, 2) := by decide +kernel
theorem qd_Model_bring_162 : decode kb_Model_bring 162 = .ok (.iload 6, 2) := by decide +kernel
theorem qd_Model_bring_164 : decode kb_Model_bring 164 = .ok (.ifCond .lt (16), 3) := by decide +kernel
theorem qd_Model_bring_167 : decode kb_Model_bring 167 = .ok (.aload_n 0, 1) := by decide +kernel
theorem qd_Model_bring_168 : decode kb_Model_bring 168 = .ok (.getfield 44, 3) := by decide +kernel
theorem qd_Model_bring_171 : decode kb_Model_bring 171 = .ok (.bipush (12), 2) := by decide +kernel
theorem qd_Model_bring_173 : decode kb_Model_bring 173 = .ok (.iload_n 1, 1) := by decide +kernel
theorem qd_Model_bring_174 : decode kb_Model_bring 174 = .ok (.imul, 1) := by decide +kernel
theorem qd_Model_bring_175 : decode kb_Model_bring 175 = .ok (.iload 6, 2) := by decide +kernel
theorem qd_Model_bring_177 : decode kb_Model_bring 177 = .ok (.iadd, 1) := by decide +kernel
theorem qd_Model_bring_178 : decode kb_Model_bring 178 = .ok (.iconst 1, 1) := by decide +kernel
theorem qd_Model_bring_179 : decode kb_Model_bring 179 = .ok (.bastore, 1) := by decide +kernel
theorem qd_Model_bring_180 : decode kb_Model_bring 180 = .ok (.iinc 5 (1), 3) := by decide +kernel
theorem qd_Model_bring_183 : decode kb_Model_bring 183 = .ok (.goto (-51), 3) := by decide +kernel
theorem qd_Model_bring_186 : decode kb_Model_bring 186 = .ok (.iconst 0, 1) := by decide +kernel
theorem qd_Model_bring_187 : decode kb_Model_bring 187 = .ok (.istore 5, 2) := by decide +kernel
theorem qd_Model_bring_189 : decode kb_Model_bring 189 = .ok (.iload 5, 2) := by decide +kernel
theorem qd_Model_bring_191 : decode kb_Model_bring 191 = .ok (.aload_n 0, 1) := by decide +kernel
theorem qd_Model_bring_192 : decode kb_Model_bring 192 = .ok (.getfield 105, 3) := by decide +kernel
theorem qd_Model_bring_195 : decode kb_Model_bring 195 = .ok (.if_icmp .ge (51), 3) := by decide +kernel
theorem qd_Model_bring_198 : decode kb_Model_bring 198 = .ok (.aload_n 0, 1) := by decide +kernel
theorem qd_Model_bring_199 : decode kb_Model_bring 199 = .ok (.aload_n 0, 1) := by decide +kernel
theorem qd_Model_bring_200 : decode kb_Model_bring 200 = .ok (.aload_n 0, 1) := by decide +kernel
theorem qd_Model_bring_201 : decode kb_Model_bring 201 = .ok (.iload 5, 2) := by decide +kernel
theorem qd_Model_bring_203 : decode kb_Model_bring 203 = .ok (.invokevirtual 108, 3) := by decide +kernel
theorem qd_Model_bring_206 : decode kb_Model_bring 206 = .ok (.invokevirtual 111, 3) := by decide +kernel
theorem qd_Model_bring_209 : decode kb_Model_bring 209 = .ok (.aload_n 0, 1) := by decide +kernel
theorem qd_Model_bring_210 : decode kb_Model_bring 210 = .ok (.aload_n 0, 1) := by decide +kernel
theorem qd_Model_bring_211 : decode kb_Model_bring 211 = .ok (.iload 5, 2) := by decide +kernel
theorem qd_Model_bring_213 : decode kb_Model_bring 213 = .ok (.invokevirtual 108, 3) := by decide +kernel
theorem qd_Model_bring_216 : decode kb_Model_bring 216 = .ok (.iconst 4, 1) := by decide +kernel
theorem qd_Model_bring_217 : decode kb_Model_bring 217 = .ok (.iadd, 1) := by decide +kernel
theorem qd_Model_bring_218 : decode kb_Model_bring 218 = .ok (.invokevirtual 111, 3) := by decide +kernel
theorem qd_Model_bring_221 : decode kb_Model_bring 221 = .ok (.iload_n 3, 1) := by decide +kernel
theorem qd_Model_bring_222 : decode kb_Model_bring 222 = .ok (.aload_n 0, 1) := by decide +kernel
theorem qd_Model_bring_223 : decode kb_Model_bring 223 = .ok (.aload_n 0, 1) := by decide +kernel
theorem qd_Model_bring_224 : decode kb_Model_bring 224 = .ok (.iload 5, 2) := by decide +kernel
theorem qd_Model_bring_226 : decode kb_Model_bring 226 = .ok (.invokevirtual 108, 3) := by decide +kernel
theorem qd_Model_bring_229 : decode kb_Model_bring 229 = .ok (.bipush (8), 2) := by decide +kernel
theorem qd_Model_bring_231 : decode kb_Model_bring 231 = .ok (.iadd, 1) := by decide +kernel
theorem qd_Model_bring_232 : decode kb_Model_bring 232 = .ok (.invokevirtual 111, 3) := by decide +kernel
theorem qd_Model_bring_235 : decode kb_Model_bring 235 = .ok (.iadd, 1) := by decide +kernel
theorem qd_Model_bring_236 : decode kb_Model_bring 236 = .ok (.iload_n 1, 1) := by decide +kernel
theorem qd_Model_bring_237 : decode kb_Model_bring 237 = .ok (.invokevirtual 89, 3) := by decide +kernel
theorem qd_Model_bring_240 : decode kb_Model_bring 240 = .ok (.iinc 5 (1), 3) := by decide +kernel
theorem qd_Model_bring_243 : decode kb_Model_bring 243 = .ok (.goto (-54), 3) := by decide +kernel
theorem qd_Model_bring_246 : decode kb_Model_bring 246 = .ok (.aload_n 0, 1) := by decide +kernel
theorem qd_Model_bring_247 : decode kb_Model_bring 247 = .ok (.getfield 118, 3) := by decide +kernel
theorem qd_Model_bring_250 : decode kb_Model_bring 250 = .ok (.iconst (-1), 1) := by decide +kernel
theorem qd_Model_bring_251 : decode kb_Model_bring 251 = .ok (.if_icmp .ne (4), 3) := by decide +kernel
theorem qd_Model_bring_254 : decode kb_Model_bring 254 = .ok (.return_, 1) := by decide +kernel
theorem qd_Model_bring_255 : decode kb_Model_bring 255 = .ok (.aload_n 0, 1) := by decide +kernel
theorem qd_Model_bring_256 : decode kb_Model_bring 256 = .ok (.iload_n 3, 1) := by decide +kernel
theorem qd_Model_bring_257 : decode kb_Model_bring 257 = .ok (.aload_n 0, 1) := by decide +kernel
theorem qd_Model_bring_258 : decode kb_Model_bring 258 = .ok (.getfield 118, 3) := by decide +kernel
theorem qd_Model_bring_261 : decode kb_Model_bring 261 = .ok (.iadd, 1) := by decide +kernel
theorem qd_Model_bring_262 : decode kb_Model_bring 262 = .ok (.iconst 0, 1) := by decide +kernel
theorem qd_Model_bring_263 : decode kb_Model_bring 263 = .ok (.iconst 0, 1) := by decide +kernel
theorem qd_Model_bring_264 : decode kb_Model_bring 264 = .ok (.iload 4, 2) := by decide +kernel
theorem qd_Model_bring_266 : decode kb_Model_bring 266 = .ok (.invokevirtual 180, 3) := by decide +kernel
theorem qd_Model_bring_269 : decode kb_Model_bring 269 = .ok (.ifCond .ne (26), 3) := by decide +kernel
theorem qd_Model_bring_272 : decode kb_Model_bring 272 = .ok (.aload_n 0, 1) := by decide +kernel
theorem qd_Model_bring_273 : decode kb_Model_bring 273 = .ok (.aload_n 0, 1) := by decide +kernel
theorem qd_Model_bring_274 : decode kb_Model_bring 274 = .ok (.getfield 146, 3) := by decide +kernel
theorem qd_Model_bring_277 : decode kb_Model_bring 277 = .ok (.ifCond .le (8), 3) := by decide +kernel
theorem qd_Model_bring_280 : decode kb_Model_bring 280 = .ok (.bipush (8), 2) := by decide +kernel
theorem qd_Model_bring_282 : decode kb_Model_bring 282 = .ok (.goto (5), 3) := by decide +kernel
theorem qd_Model_bring_285 : decode kb_Model_bring 285 = .ok (.bipush (9), 2) := by decide +kernel
theorem qd_Model_bring_287 : decode kb_Model_bring 287 = .ok (.iconst (-1), 1) := by decide +kernel
theorem qd_Model_bring_288 : decode kb_Model_bring 288 = .ok (.invokevirtual 139, 3) := by decide +kernel
theorem qd_Model_bring_291 : decode kb_Model_bring 291 = .ok (.pop, 1) := by decide +kernel
theorem qd_Model_bring_292 : decode kb_Model_bring 292 = .ok (.goto (18), 3) := by decide +kernel
theorem qd_Model_bring_295 : decode kb_Model_bring 295 = .ok (.aload_n 0, 1) := by decide +kernel
theorem qd_Model_bring_296 : decode kb_Model_bring 296 = .ok (.getfield 152, 3) := by decide +kernel
theorem qd_Model_bring_299 : decode kb_Model_bring 299 = .ok (.ifCond .eq (11), 3) := by decide +kernel
theorem qd_Model_bring_302 : decode kb_Model_bring 302 = .ok (.aload_n 0, 1) := by decide +kernel
theorem qd_Model_bring_303 : decode kb_Model_bring 303 = .ok (.bipush (10), 2) := by decide +kernel
theorem qd_Model_bring_305 : decode kb_Model_bring 305 = .ok (.iconst (-1), 1) := by decide +kernel
theorem qd_Model_bring_306 : decode kb_Model_bring 306 = .ok (.invokevirtual 139, 3) := by decide +kernel
theorem qd_Model_bring_309 : decode kb_Model_bring 309 = .ok (.pop, 1) := by decide +kernel
theorem qd_Model_bring_310 : decode kb_Model_bring 310 = .ok (.aload_n 0, 1) := by decide +kernel
theorem qd_Model_bring_311 : decode kb_Model_bring 311 = .ok (.getfield 136, 3) := by decide +kernel
theorem qd_Model_bring_314 : decode kb_Model_bring 314 = .ok (.ifCond .le (8), 3) := by decide +kernel
theorem qd_Model_bring_317 : decode kb_Model_bring 317 = .ok (.aload_n 0, 1) := by decide +kernel
theorem qd_Model_bring_318 : decode kb_Model_bring 318 = .ok (.iload_n 1, 1) := by decide +kernel
theorem qd_Model_bring_319 : decode kb_Model_bring 319 = .ok (.invokevirtual 184, 3) := by decide +kernel
theorem qd_Model_bring_322 : decode kb_Model_bring 322 = .ok (.return_, 1) := by decide +kernel
def qf_Model_bring_b180 (rec132 : qm_S → Int32 → Int32 → Int32 → Int32 → Option (qm_S)) (u : qm_S) (x1 : Int32) (x3 : Int32) (x4 : Int32) (x5 : Int32) : Option (qm_S) := xx_nm (x5 + (1 : Int32)) fun v1 => rec132 u x1 x3 x4 v1
def qf_Model_bring_b322 (u : qm_S) : Option (qm_S) := some u
def qf_Model_bring_b310 (u : qm_S) (x1 : Int32) : Option (qm_S) := if (u.1 17) ≤ 0 then (qf_Model_bring_b322 u) else ((qf_Model_remove u x1).bind fun u1 => qf_Model_bring_b322 u1)
def qf_Model_bring_b287 (u : qm_S) (x1 : Int32) (y1 : Int32) : Option (qm_S) := xx_b2 (qf_Model_wrong u y1 (-1 : Int32)) fun v2 u1 => qf_Model_bring_b310 u1 x1
def qf_Model_bring_b189 : Nat → qm_S → Int32 → Int32 → Int32 → Int32 → Option (qm_S)
  | 0, _, _, _, _, _ => none
  | n + 1, u, x1, x3, x4, x5 => if (u.1 24) ≤ x5 then (if (u.1 27) = (-1 : Int32) then (some u) else (xx_b2 (qf_Model_runs u (x3 + (u.1 27)) (0 : Int32) (0 : Int32) x4) fun v2 u1 => if v2 = 0 then (if (u1.1 19) ≤ 0 then (qf_Model_bring_b287 u1 x1 (9 : Int32)) else (qf_Model_bring_b287 u1 x1 (8 : Int32))) else (if (u1.1 21) = 0 then (qf_Model_bring_b310 u1 x1) else (xx_b2 (qf_Model_wrong u1 (10 : Int32) (-1 : Int32)) fun v4 u3 => qf_Model_bring_b310 u3 x1)))) else (xx_b2 (qf_Model_exportAt u x5) fun v6 u5 => xx_b2 (qf_Model_tapeWord u5 v6) fun v8 u7 => xx_b2 (qf_Model_exportAt u7 x5) fun v10 u9 => xx_b2 (qf_Model_tapeWord u9 (v10 + (4 : Int32))) fun v12 u11 => xx_b2 (qf_Model_exportAt u11 x5) fun v14 u13 => xx_b2 (qf_Model_tapeWord u13 (v14 + (8 : Int32))) fun v16 u15 => (qf_Model_addSymbol u15 v8 v12 (x3 + v16) x1).bind fun u17 => xx_nm (x5 + (1 : Int32)) fun v18 => (qf_Model_bring_b189 n) u17 x1 x3 x4 v18)
def qf_Model_bring_b132 : Nat → qm_S → Int32 → Int32 → Int32 → Int32 → Option (qm_S)
  | 0, _, _, _, _, _ => none
  | n + 1, u, x1, x3, x4, x5 => if (u.1 23) ≤ x5 then (xx_nm (0 : Int32) fun v1 => qf_Model_bring_b189 xx_fu u x1 x3 x4 v1) else (xx_b2 (qf_Model_importAt u x5) fun v3 u2 => xx_b2 (qf_Model_tapeWord u2 v3) fun v5 u4 => xx_b2 (qf_Model_find u4 v5) fun v7 u6 => (xx_ag (u6.2 5) 40 v7).bind fun v8 => if v8 < 0 then (qf_Model_bring_b180 (qf_Model_bring_b132 n) u6 x1 x3 x4 x5) else ((xx_as (u6.2 12) 144 (((12 : Int32) * x1) + v8) (vp_nar .boolean (1 : Int32))).bind fun f9 => xx_nm (u6.1, va_up u6.2 12 f9) fun u10 => qf_Model_bring_b180 (qf_Model_bring_b132 n) u10 x1 x3 x4 x5))
def qf_Model_bring_b44 : Nat → qm_S → Int32 → Int32 → Int32 → Int32 → Int32 → Option (qm_S)
  | 0, _, _, _, _, _, _ => none
  | n + 1, u, x1, x2, x3, x4, x5 => if (u.1 26) ≤ x5 then ((xx_as (u.2 6) 12 x1 (vp_nar .boolean (1 : Int32))).bind fun f1 => xx_nm (u.1, va_up u.2 6 f1) fun u2 => (xx_as (u2.2 7) 12 x1 x2).bind fun f3 => xx_nm (u2.1, va_up u2.2 7 f3) fun u4 => (xx_as (u4.2 8) 12 x1 x3).bind fun f5 => xx_nm (u4.1, va_up u4.2 8 f5) fun u6 => (xx_as (u6.2 9) 12 x1 (u6.1 26)).bind fun f7 => xx_nm (u6.1, va_up u6.2 9 f7) fun u8 => (xx_as (u8.2 10) 12 x1 (u8.1 29)).bind fun f9 => xx_nm (u8.1, va_up u8.2 10 f9) fun u10 => (xx_as (u10.2 11) 12 x1 (u10.1 28)).bind fun f11 => xx_nm (u10.1, va_up u10.2 11 f11) fun u12 => xx_nm (0 : Int32) fun v13 => qf_Model_bring_b132 xx_fu u12 x1 x3 x4 v13) else ((xx_ag (u.2 13) 1200 ((32 : Int32) + x5)).bind fun v14 => (xx_as (u.2 1) 4096 (x3 + x5) v14).bind fun f15 => xx_nm (u.1, va_up u.2 1 f15) fun u16 => xx_nm (x5 + (1 : Int32)) fun v17 => (qf_Model_bring_b44 n) u16 x1 x2 x3 x4 v17)
def qf_Model_bring_b3 : Nat → qm_S → Int32 → Int32 → Int32 → Int32 → Int32 → Option (qm_S)
  | 0, _, _, _, _, _, _ => none
  | n + 1, u, x1, x2, x3, x4, x5 => if (u.1 25) ≤ x5 then (xx_nm (0 : Int32) fun v1 => qf_Model_bring_b44 xx_fu u x1 x2 x3 x4 v1) else (xx_b2 (qf_Model_mend u x3 x5) fun v3 u2 => if v3 = 0 then (xx_b2 (qf_Model_wrong u2 (7 : Int32) x5) fun v5 u4 => some u4) else (xx_nm (x5 + (1 : Int32)) fun v6 => (qf_Model_bring_b3 n) u2 x1 x2 x3 x4 v6))
def qf_Model_bring (u : qm_S) (x1 : Int32) (x2 : Int32) (x3 : Int32) (x4 : Int32) : Option (qm_S) := xx_nm (0 : Int32) fun v1 => qf_Model_bring_b3 xx_fu u x1 x2 x3 x4 v1
set_option maxHeartbeats 4000000 in
set_option maxRecDepth 100000 in
theorem qw_Model_bring_b180 {p : Program} {l : Launch} {e : Env} {s : State} {m : MethodId} {args : Array Value} {below : List Frame} {meth : Method} {c : Code} {A : Nat → Prop} {g : xx_G} {u9 : qm_S} (C : xx_C p s m args meth c kb_Model_bring 7 kr_Model none) (hA : ∀ q, s.heap.size ≤ q → A q) (hK : va_K g.1 xx_cls (qm_T g) s) {rec132 : qm_S → Int32 → Int32 → Int32 → Int32 → Option (qm_S)} (hrec132 : ∀ (u : qm_S) (x1 : Int32) (x3 : Int32) (x4 : Int32) (x5 : Int32) (H : Heap) (locs : List Loc) (ls : Array Slot), rec132 u x1 x3 x4 x5 = some u9 → lv_has ls 7 [(0, .ref (g.2.1 0)), (1, .int x1), (3, .int x3), (4, .int x4), (5, .int x5)] → va_P g.1 xx_cls (qm_W g u) H → va_D A (qm_W g u) → va_S A s.heap H locs → W p l e (xx_rm 4 104) s m args below meth c H locs 0 0 (MQ below (xx_Q g.1 (qm_T g) (qm_W g) none u9 A) args s 0 0 A) (F0 m 132 ls [])) : ∀ (u : qm_S) (x1 : Int32) (x3 : Int32) (x4 : Int32) (x5 : Int32) (H : Heap) (locs : List Loc) (ls : Array Slot), qf_Model_bring_b180 rec132 u x1 x3 x4 x5 = some u9 → lv_has ls 7 [(0, .ref (g.2.1 0)), (1, .int x1), (3, .int x3), (4, .int x4), (5, .int x5)] → va_P g.1 xx_cls (qm_W g u) H → va_D A (qm_W g u) → va_S A s.heap H locs → W p l e (xx_rm 4 104) s m args below meth c H locs 0 0 (MQ below (xx_Q g.1 (qm_T g) (qm_W g) none u9 A) args s 0 0 A) (F0 m 180 ls []) := by
  have hx := C.1
  have hb := C.2.1
  have hown := C.2.2.2.1
  have hts := C.2.2.2.2.1
  intro u x1 x3 x4 x5 H locs ls hF hl hP hD hS
  unfold qf_Model_bring_b180 at hF
  obtain ⟨v1, ev1, hF⟩ := xx_nm_some hF
  refine lv_iinc (k := 4) (v := v1) hx hb qd_Model_bring_180 hl rfl (by rw [ev1, xx_lit1]) (by decide) rfl (fun ls hl => ?_)
  refine lv_goto (tgt := 132) hx hb qd_Model_bring_183 (by decide) ?_
  exact hrec132 u x1 x3 x4 v1 _ _ _ hF (lv_sub hl [1, 2, 3, 4, 0] rfl) hP hD hS
set_option maxHeartbeats 4000000 in
set_option maxRecDepth 100000 in
theorem qw_Model_bring_b322 {p : Program} {l : Launch} {e : Env} {s : State} {m : MethodId} {args : Array Value} {below : List Frame} {meth : Method} {c : Code} {A : Nat → Prop} {g : xx_G} {u9 : qm_S} (C : xx_C p s m args meth c kb_Model_bring 7 kr_Model none) (hA : ∀ q, s.heap.size ≤ q → A q) (hK : va_K g.1 xx_cls (qm_T g) s) : ∀ (u : qm_S) (H : Heap) (locs : List Loc) (ls : Array Slot), qf_Model_bring_b322 u = some u9 → lv_has ls 7 [] → va_P g.1 xx_cls (qm_W g u) H → va_D A (qm_W g u) → va_S A s.heap H locs → W p l e (xx_rm 4 104) s m args below meth c H locs 0 0 (MQ below (xx_Q g.1 (qm_T g) (qm_W g) none u9 A) args s 0 0 A) (F0 m 322 ls []) := by
  have hx := C.1
  have hb := C.2.1
  have hown := C.2.2.2.1
  have hts := C.2.2.2.2.1
  intro u H locs ls hF hl hP hD hS
  unfold qf_Model_bring_b322 at hF
  exact xx_vret C hF hK hP hD hS qd_Model_bring_322
set_option maxHeartbeats 4000000 in
set_option maxRecDepth 100000 in
theorem qw_Model_bring_b310 {p : Program} {l : Launch} {e : Env} {s : State} {m : MethodId} {args : Array Value} {below : List Frame} {meth : Method} {c : Code} {A : Nat → Prop} {g : xx_G} {u9 : qm_S} (C : xx_C p s m args meth c kb_Model_bring 7 kr_Model none) (hA : ∀ q, s.heap.size ≤ q → A q) (hK : va_K g.1 xx_cls (qm_T g) s) : ∀ (u : qm_S) (x1 : Int32) (H : Heap) (locs : List Loc) (ls : Array Slot), qf_Model_bring_b310 u x1 = some u9 → lv_has ls 7 [(0, .ref (g.2.1 0)), (1, .int x1)] → va_P g.1 xx_cls (qm_W g u) H → va_D A (qm_W g u) → va_S A s.heap H locs → W p l e (xx_rm 4 104) s m args below meth c H locs 0 0 (MQ below (xx_Q g.1 (qm_T g) (qm_W g) none u9 A) args s 0 0 A) (F0 m 310 ls []) := by
  have hx := C.1
  have hb := C.2.1
  have hown := C.2.2.2.1
  have hts := C.2.2.2.2.1
  intro u x1 H locs ls hF hl hP hD hS
  unfold qf_Model_bring_b310 at hF
  refine lv_aload_n hx hb qd_Model_bring_310 rfl (lv_at hl 0 rfl) ?_
  refine xx_get C ki_Model hK hP 0 rfl rfl 17 (by decide) kw_890 rfl rfl qd_Model_bring_311 ?_
  refine lv_if_le (tgt := 322) hx hb qd_Model_bring_314 (by decide) (fun hc => ?_) (fun hc => ?_)
  · have hF := xx_ip hc hF
    exact qw_Model_bring_b322 C hA hK  u _ _ _ hF (lv_sub hl [] rfl) hP hD hS
  · have hF := xx_in' hc hF
    refine lv_aload_n hx hb qd_Model_bring_317 rfl (lv_at hl 0 rfl) ?_
    refine lv_iload_n hx hb qd_Model_bring_318 rfl (lv_at hl 1 rfl) ?_
    obtain ⟨u1, eu1, hF⟩ := xx_ob hF
    refine xx_callV (n := 1) (As := [.int x1]) (rest := []) C (qc_Model_remove l g u x1 u1 eu1) ⟨kw_1132, kw_1129, kw_1131, ks_Model_remove, kw_9⟩ ⟨by decide +kernel, by decide +kernel, by decide +kernel⟩ rfl ⟨Nat.le_of_ble_eq_true rfl, Nat.le_of_ble_eq_true rfl⟩ 0 rfl rfl hl.1 rfl (Nat.le_of_ble_eq_true rfl) hA hK hP hD hS ⟨Nat.le_refl _, Nat.le_refl _⟩ rfl rfl rfl qd_Model_bring_319 (fun H locs hP hD hS => ?_)
    exact qw_Model_bring_b322 C hA hK  u1 _ _ _ hF (lv_sub hl [] rfl) hP hD hS
set_option maxHeartbeats 4000000 in
set_option maxRecDepth 100000 in
theorem qw_Model_bring_b287 {p : Program} {l : Launch} {e : Env} {s : State} {m : MethodId} {args : Array Value} {below : List Frame} {meth : Method} {c : Code} {A : Nat → Prop} {g : xx_G} {u9 : qm_S} (C : xx_C p s m args meth c kb_Model_bring 7 kr_Model none) (hA : ∀ q, s.heap.size ≤ q → A q) (hK : va_K g.1 xx_cls (qm_T g) s) : ∀ (u : qm_S) (x1 : Int32) (y1 : Int32) (H : Heap) (locs : List Loc) (ls : Array Slot), qf_Model_bring_b287 u x1 y1 = some u9 → lv_has ls 7 [(0, .ref (g.2.1 0)), (1, .int x1)] → va_P g.1 xx_cls (qm_W g u) H → va_D A (qm_W g u) → va_S A s.heap H locs → W p l e (xx_rm 4 104) s m args below meth c H locs 0 0 (MQ below (xx_Q g.1 (qm_T g) (qm_W g) none u9 A) args s 0 0 A) (F0 m 287 ls [.int y1, .ref (g.2.1 0)]) := by
  have hx := C.1
  have hb := C.2.1
  have hown := C.2.2.2.1
  have hts := C.2.2.2.2.1
  intro u x1 y1 H locs ls hF hl hP hD hS
  unfold qf_Model_bring_b287 at hF
  refine lv_iconst (v := (-1 : Int32)) hx hb qd_Model_bring_287 (by decide) ?_
  obtain ⟨v2, u1, eu1, hF⟩ := xx_b2_some hF
  refine xx_callV (n := 2) (As := [.int y1, .int (-1 : Int32)]) (rest := []) C (qc_Model_wrong l g u y1 (-1 : Int32) v2 u1 eu1) ⟨kw_1060, kw_1057, kw_1059, ks_Model_wrong, kw_9⟩ ⟨by decide +kernel, by decide +kernel, by decide +kernel⟩ rfl ⟨Nat.le_of_ble_eq_true rfl, Nat.le_of_ble_eq_true rfl⟩ 0 rfl rfl hl.1 rfl (Nat.le_of_ble_eq_true rfl) hA hK hP hD hS ⟨Nat.le_refl _, Nat.le_refl _⟩ rfl rfl rfl qd_Model_bring_288 (fun H locs hP hD hS => ?_)
  refine lv_pop hx hb qd_Model_bring_291 rfl ?_
  refine lv_goto (tgt := 310) hx hb qd_Model_bring_292 (by decide) ?_
  exact qw_Model_bring_b310 C hA hK  u1 x1 _ _ _ hF (lv_sub hl [0, 1] rfl) hP hD hS
set_option maxHeartbeats 4000000 in
set_option maxRecDepth 100000 in
theorem qw_Model_bring_b189 {p : Program} {l : Launch} {e : Env} {s : State} {m : MethodId} {args : Array Value} {below : List Frame} {meth : Method} {c : Code} {A : Nat → Prop} {g : xx_G} {u9 : qm_S} (C : xx_C p s m args meth c kb_Model_bring 7 kr_Model none) (hA : ∀ q, s.heap.size ≤ q → A q) (hK : va_K g.1 xx_cls (qm_T g) s) : ∀ (n : Nat), ∀ (u : qm_S) (x1 : Int32) (x3 : Int32) (x4 : Int32) (x5 : Int32) (H : Heap) (locs : List Loc) (ls : Array Slot), qf_Model_bring_b189 n u x1 x3 x4 x5 = some u9 → lv_has ls 7 [(0, .ref (g.2.1 0)), (1, .int x1), (3, .int x3), (4, .int x4), (5, .int x5)] → va_P g.1 xx_cls (qm_W g u) H → va_D A (qm_W g u) → va_S A s.heap H locs → W p l e (xx_rm 4 104) s m args below meth c H locs 0 0 (MQ below (xx_Q g.1 (qm_T g) (qm_W g) none u9 A) args s 0 0 A) (F0 m 189 ls []) := by
  have hx := C.1
  have hb := C.2.1
  have hown := C.2.2.2.1
  have hts := C.2.2.2.2.1
  intro n
  induction n with
  | zero =>
    intro u x1 x3 x4 x5 H locs ls hF
    rw [qf_Model_bring_b189] at hF
    cases hF
  | succ n ih =>
    intro u x1 x3 x4 x5 H locs ls hF hl hP hD hS
    rw [qf_Model_bring_b189] at hF
    refine lv_iload hx hb qd_Model_bring_189 (lv_at hl 4 rfl) ?_
    refine lv_aload_n hx hb qd_Model_bring_191 rfl (lv_at hl 0 rfl) ?_
    refine xx_get C ki_Model hK hP 0 rfl rfl 24 (by decide) kw_897 rfl rfl qd_Model_bring_192 ?_
    refine lv_icmp_ge (tgt := 246) hx hb qd_Model_bring_195 (by decide) (fun hc => ?_) (fun hc => ?_)
    · have hF := xx_ip hc hF
      refine lv_aload_n hx hb qd_Model_bring_246 rfl (lv_at hl 0 rfl) ?_
      refine xx_get C ki_Model hK hP 0 rfl rfl 27 (by decide) kw_900 rfl rfl qd_Model_bring_247 ?_
      refine lv_iconst (v := (-1 : Int32)) hx hb qd_Model_bring_250 (by decide) ?_
      refine lv_icmp_ne (tgt := 255) hx hb qd_Model_bring_251 (by decide) (fun hc => ?_) (fun hc => ?_)
      · have hF := xx_in' hc hF
        refine lv_aload_n hx hb qd_Model_bring_255 rfl (lv_at hl 0 rfl) ?_
        refine lv_iload_n hx hb qd_Model_bring_256 rfl (lv_at hl 2 rfl) ?_
        refine lv_aload_n hx hb qd_Model_bring_257 rfl (lv_at hl 0 rfl) ?_
        refine xx_get C ki_Model hK hP 0 rfl rfl 27 (by decide) kw_900 rfl rfl qd_Model_bring_258 ?_
        refine lv_iadd hx hb qd_Model_bring_261 ?_
        refine lv_iconst (v := (0 : Int32)) hx hb qd_Model_bring_262 (by decide) ?_
        refine lv_iconst (v := (0 : Int32)) hx hb qd_Model_bring_263 (by decide) ?_
        refine lv_iload hx hb qd_Model_bring_264 (lv_at hl 3 rfl) ?_
        obtain ⟨v2, u1, eu1, hF⟩ := xx_b2_some hF
        refine xx_callV (n := 4) (As := [.int (x3 + (u.1 27)), .int (0 : Int32), .int (0 : Int32), .int x4]) (rest := []) C (qc_Model_runs l g u (x3 + (u.1 27)) (0 : Int32) (0 : Int32) x4 v2 u1 eu1) ⟨kw_1096, kw_1093, kw_1095, ks_Model_runs, kw_9⟩ ⟨by decide +kernel, by decide +kernel, by decide +kernel⟩ rfl ⟨Nat.le_of_ble_eq_true rfl, Nat.le_of_ble_eq_true rfl⟩ 0 rfl rfl hl.1 rfl (Nat.le_of_ble_eq_true rfl) hA hK hP hD hS ⟨Nat.le_refl _, Nat.le_refl _⟩ rfl rfl rfl qd_Model_bring_266 (fun H locs hP hD hS => ?_)
        refine lv_if_ne (tgt := 295) hx hb qd_Model_bring_269 (by decide) (fun hc => ?_) (fun hc => ?_)
        · have hF := xx_in' hc hF
          refine lv_aload_n hx hb qd_Model_bring_295 rfl (lv_at hl 0 rfl) ?_
          refine xx_get C ki_Model hK hP 0 rfl rfl 21 (by decide) kw_894 rfl rfl qd_Model_bring_296 ?_
          refine lv_if_eq (tgt := 310) hx hb qd_Model_bring_299 (by decide) (fun hc => ?_) (fun hc => ?_)
          · have hF := xx_ip hc hF
            exact qw_Model_bring_b310 C hA hK  u1 x1 _ _ _ hF (lv_sub hl [0, 1] rfl) hP hD hS
          · have hF := xx_in' hc hF
            refine lv_aload_n hx hb qd_Model_bring_302 rfl (lv_at hl 0 rfl) ?_
            refine lv_bipush (v := (10 : Int32)) hx hb qd_Model_bring_303 (by decide) ?_
            refine lv_iconst (v := (-1 : Int32)) hx hb qd_Model_bring_305 (by decide) ?_
            obtain ⟨v4, u3, eu3, hF⟩ := xx_b2_some hF
            refine xx_callV (n := 2) (As := [.int (10 : Int32), .int (-1 : Int32)]) (rest := []) C (qc_Model_wrong l g u1 (10 : Int32) (-1 : Int32) v4 u3 eu3) ⟨kw_1060, kw_1057, kw_1059, ks_Model_wrong, kw_9⟩ ⟨by decide +kernel, by decide +kernel, by decide +kernel⟩ rfl ⟨Nat.le_of_ble_eq_true rfl, Nat.le_of_ble_eq_true rfl⟩ 0 rfl rfl hl.1 rfl (Nat.le_of_ble_eq_true rfl) hA hK hP hD hS ⟨Nat.le_refl _, Nat.le_refl _⟩ rfl rfl rfl qd_Model_bring_306 (fun H locs hP hD hS => ?_)
            refine lv_pop hx hb qd_Model_bring_309 rfl ?_
            exact qw_Model_bring_b310 C hA hK  u3 x1 _ _ _ hF (lv_sub hl [0, 1] rfl) hP hD hS
        · have hF := xx_ip hc hF
          refine lv_aload_n hx hb qd_Model_bring_272 rfl (lv_at hl 0 rfl) ?_
          refine lv_aload_n hx hb qd_Model_bring_273 rfl (lv_at hl 0 rfl) ?_
          refine xx_get C ki_Model hK hP 0 rfl rfl 19 (by decide) kw_892 rfl rfl qd_Model_bring_274 ?_
          refine lv_if_le (tgt := 285) hx hb qd_Model_bring_277 (by decide) (fun hc => ?_) (fun hc => ?_)
          · have hF := xx_ip hc hF
            refine lv_bipush (v := (9 : Int32)) hx hb qd_Model_bring_285 (by decide) ?_
            exact qw_Model_bring_b287 C hA hK  u1 x1 (9 : Int32) _ _ _ hF (lv_sub hl [0, 1] rfl) hP hD hS
          · have hF := xx_in' hc hF
            refine lv_bipush (v := (8 : Int32)) hx hb qd_Model_bring_280 (by decide) ?_
            refine lv_goto (tgt := 287) hx hb qd_Model_bring_282 (by decide) ?_
            exact qw_Model_bring_b287 C hA hK  u1 x1 (8 : Int32) _ _ _ hF (lv_sub hl [0, 1] rfl) hP hD hS
      · have hF := xx_ip hc hF
        exact xx_vret C hF hK hP hD hS qd_Model_bring_254
    · have hF := xx_in' hc hF
      refine lv_aload_n hx hb qd_Model_bring_198 rfl (lv_at hl 0 rfl) ?_
      refine lv_aload_n hx hb qd_Model_bring_199 rfl (lv_at hl 0 rfl) ?_
      refine lv_aload_n hx hb qd_Model_bring_200 rfl (lv_at hl 0 rfl) ?_
      refine lv_iload hx hb qd_Model_bring_201 (lv_at hl 4 rfl) ?_
      obtain ⟨v6, u5, eu5, hF⟩ := xx_b2_some hF
      refine xx_callV (n := 1) (As := [.int x5]) (rest := [.ref (g.2.1 0), .ref (g.2.1 0)]) C (qc_Model_exportAt l g u x5 v6 u5 eu5) ⟨kw_1052, kw_1049, kw_1051, ks_Model_exportAt, kw_9⟩ ⟨by decide +kernel, by decide +kernel, by decide +kernel⟩ rfl ⟨Nat.le_of_ble_eq_true rfl, Nat.le_of_ble_eq_true rfl⟩ 0 rfl rfl hl.1 rfl (Nat.le_of_ble_eq_true rfl) hA hK hP hD hS ⟨Nat.le_refl _, Nat.le_refl _⟩ rfl rfl rfl qd_Model_bring_203 (fun H locs hP hD hS => ?_)
      obtain ⟨v8, u7, eu7, hF⟩ := xx_b2_some hF
      refine xx_callV (n := 1) (As := [.int v6]) (rest := [.ref (g.2.1 0)]) C (qc_Model_tapeWord l g u5 v6 v8 u7 eu7) ⟨kw_1040, kw_1037, kw_1039, ks_Model_tapeWord, kw_9⟩ ⟨by decide +kernel, by decide +kernel, by decide +kernel⟩ rfl ⟨Nat.le_of_ble_eq_true rfl, Nat.le_of_ble_eq_true rfl⟩ 0 rfl rfl hl.1 rfl (Nat.le_of_ble_eq_true rfl) hA hK hP hD hS ⟨Nat.le_refl _, Nat.le_refl _⟩ rfl rfl rfl qd_Model_bring_206 (fun H locs hP hD hS => ?_)
      refine lv_aload_n hx hb qd_Model_bring_209 rfl (lv_at hl 0 rfl) ?_
      refine lv_aload_n hx hb qd_Model_bring_210 rfl (lv_at hl 0 rfl) ?_
      refine lv_iload hx hb qd_Model_bring_211 (lv_at hl 4 rfl) ?_
      obtain ⟨v10, u9, eu9, hF⟩ := xx_b2_some hF
      refine xx_callV (n := 1) (As := [.int x5]) (rest := [.ref (g.2.1 0), .int v8, .ref (g.2.1 0)]) C (qc_Model_exportAt l g u7 x5 v10 u9 eu9) ⟨kw_1052, kw_1049, kw_1051, ks_Model_exportAt, kw_9⟩ ⟨by decide +kernel, by decide +kernel, by decide +kernel⟩ rfl ⟨Nat.le_of_ble_eq_true rfl, Nat.le_of_ble_eq_true rfl⟩ 0 rfl rfl hl.1 rfl (Nat.le_of_ble_eq_true rfl) hA hK hP hD hS ⟨Nat.le_refl _, Nat.le_refl _⟩ rfl rfl rfl qd_Model_bring_213 (fun H locs hP hD hS => ?_)
      refine lv_iconst (v := (4 : Int32)) hx hb qd_Model_bring_216 (by decide) ?_
      refine lv_iadd hx hb qd_Model_bring_217 ?_
      obtain ⟨v12, u11, eu11, hF⟩ := xx_b2_some hF
      refine xx_callV (n := 1) (As := [.int (v10 + (4 : Int32))]) (rest := [.int v8, .ref (g.2.1 0)]) C (qc_Model_tapeWord l g u9 (v10 + (4 : Int32)) v12 u11 eu11) ⟨kw_1040, kw_1037, kw_1039, ks_Model_tapeWord, kw_9⟩ ⟨by decide +kernel, by decide +kernel, by decide +kernel⟩ rfl ⟨Nat.le_of_ble_eq_true rfl, Nat.le_of_ble_eq_true rfl⟩ 0 rfl rfl hl.1 rfl (Nat.le_of_ble_eq_true rfl) hA hK hP hD hS ⟨Nat.le_refl _, Nat.le_refl _⟩ rfl rfl rfl qd_Model_bring_218 (fun H locs hP hD hS => ?_)
      refine lv_iload_n hx hb qd_Model_bring_221 rfl (lv_at hl 2 rfl) ?_
      refine lv_aload_n hx hb qd_Model_bring_222 rfl (lv_at hl 0 rfl) ?_
      refine lv_aload_n hx hb qd_Model_bring_223 rfl (lv_at hl 0 rfl) ?_
      refine lv_iload hx hb qd_Model_bring_224 (lv_at hl 4 rfl) ?_
      obtain ⟨v14, u13, eu13, hF⟩ := xx_b2_some hF
      refine xx_callV (n := 1) (As := [.int x5]) (rest := [.ref (g.2.1 0), .int x3, .int v12, .int v8, .ref (g.2.1 0)]) C (qc_Model_exportAt l g u11 x5 v14 u13 eu13) ⟨kw_1052, kw_1049, kw_1051, ks_Model_exportAt, kw_9⟩ ⟨by decide +kernel, by decide +kernel, by decide +kernel⟩ rfl ⟨Nat.le_of_ble_eq_true rfl, Nat.le_of_ble_eq_true rfl⟩ 0 rfl rfl hl.1 rfl (Nat.le_of_ble_eq_true rfl) hA hK hP hD hS ⟨Nat.le_refl _, Nat.le_refl _⟩ rfl rfl rfl qd_Model_bring_226 (fun H locs hP hD hS => ?_)
      refine lv_bipush (v := (8 : Int32)) hx hb qd_Model_bring_229 (by decide) ?_
      refine lv_iadd hx hb qd_Model_bring_231 ?_
      obtain ⟨v16, u15, eu15, hF⟩ := xx_b2_some hF
      refine xx_callV (n := 1) (As := [.int (v14 + (8 : Int32))]) (rest := [.int x3, .int v12, .int v8, .ref (g.2.1 0)]) C (qc_Model_tapeWord l g u13 (v14 + (8 : Int32)) v16 u15 eu15) ⟨kw_1040, kw_1037, kw_1039, ks_Model_tapeWord, kw_9⟩ ⟨by decide +kernel, by decide +kernel, by decide +kernel⟩ rfl ⟨Nat.le_of_ble_eq_true rfl, Nat.le_of_ble_eq_true rfl⟩ 0 rfl rfl hl.1 rfl (Nat.le_of_ble_eq_true rfl) hA hK hP hD hS ⟨Nat.le_refl _, Nat.le_refl _⟩ rfl rfl rfl qd_Model_bring_232 (fun H locs hP hD hS => ?_)
      refine lv_iadd hx hb qd_Model_bring_235 ?_
      refine lv_iload_n hx hb qd_Model_bring_236 rfl (lv_at hl 1 rfl) ?_
      obtain ⟨u17, eu17, hF⟩ := xx_ob hF
      refine xx_callV (n := 4) (As := [.int v8, .int v12, .int (x3 + v16), .int x1]) (rest := []) C (qc_Model_addSymbol l g u15 v8 v12 (x3 + v16) x1 u17 eu17) ⟨kw_1016, kw_1013, kw_1015, ks_Model_addSymbol, kw_9⟩ ⟨by decide +kernel, by decide +kernel, by decide +kernel⟩ rfl ⟨Nat.le_of_ble_eq_true rfl, Nat.le_of_ble_eq_true rfl⟩ 0 rfl rfl hl.1 rfl (Nat.le_of_ble_eq_true rfl) hA hK hP hD hS ⟨Nat.le_refl _, Nat.le_refl _⟩ rfl rfl rfl qd_Model_bring_237 (fun H locs hP hD hS => ?_)
      obtain ⟨v18, ev18, hF⟩ := xx_nm_some hF
      refine lv_iinc (k := 4) (v := v18) hx hb qd_Model_bring_240 hl rfl (by rw [ev18, xx_lit1]) (by decide) rfl (fun ls hl => ?_)
      refine lv_goto (tgt := 189) hx hb qd_Model_bring_243 (by decide) ?_
      exact ih u17 x1 x3 x4 v18 _ _ _ hF (lv_sub hl [1, 2, 3, 4, 0] rfl) hP hD hS
set_option maxHeartbeats 4000000 in
set_option maxRecDepth 100000 in
theorem qw_Model_bring_b132 {p : Program} {l : Launch} {e : Env} {s : State} {m : MethodId} {args : Array Value} {below : List Frame} {meth : Method} {c : Code} {A : Nat → Prop} {g : xx_G} {u9 : qm_S} (C : xx_C p s m args meth c kb_Model_bring 7 kr_Model none) (hA : ∀ q, s.heap.size ≤ q → A q) (hK : va_K g.1 xx_cls (qm_T g) s) : ∀ (n : Nat), ∀ (u : qm_S) (x1 : Int32) (x3 : Int32) (x4 : Int32) (x5 : Int32) (H : Heap) (locs : List Loc) (ls : Array Slot), qf_Model_bring_b132 n u x1 x3 x4 x5 = some u9 → lv_has ls 7 [(0, .ref (g.2.1 0)), (1, .int x1), (3, .int x3), (4, .int x4), (5, .int x5)] → va_P g.1 xx_cls (qm_W g u) H → va_D A (qm_W g u) → va_S A s.heap H locs → W p l e (xx_rm 4 104) s m args below meth c H locs 0 0 (MQ below (xx_Q g.1 (qm_T g) (qm_W g) none u9 A) args s 0 0 A) (F0 m 132 ls []) := by
  have hx := C.1
  have hb := C.2.1
  have hown := C.2.2.2.1
  have hts := C.2.2.2.2.1
  intro n
  induction n with
  | zero =>
    intro u x1 x3 x4 x5 H locs ls hF
    rw [qf_Model_bring_b132] at hF
    cases hF
  | succ n ih =>
    intro u x1 x3 x4 x5 H locs ls hF hl hP hD hS
    rw [qf_Model_bring_b132] at hF
    refine lv_iload hx hb qd_Model_bring_132 (lv_at hl 4 rfl) ?_
    refine lv_aload_n hx hb qd_Model_bring_134 rfl (lv_at hl 0 rfl) ?_
    refine xx_get C ki_Model hK hP 0 rfl rfl 23 (by decide) kw_896 rfl rfl qd_Model_bring_135 ?_
    refine lv_icmp_ge (tgt := 186) hx hb qd_Model_bring_138 (by decide) (fun hc => ?_) (fun hc => ?_)
    · have hF := xx_ip hc hF
      refine lv_iconst (v := (0 : Int32)) hx hb qd_Model_bring_186 (by decide) ?_
      obtain ⟨v1, ev1, hF⟩ := xx_nm_some hF
      refine xx_topi ev1 ?_
      refine lv_istore hx hb qd_Model_bring_187 hl (by decide) rfl (fun ls hl => ?_)
      exact qw_Model_bring_b189 C hA hK xx_fu u x1 x3 x4 v1 _ _ _ hF (lv_sub hl [1, 2, 3, 4, 0] rfl) hP hD hS
    · have hF := xx_in' hc hF
      refine lv_aload_n hx hb qd_Model_bring_141 rfl (lv_at hl 0 rfl) ?_
      refine xx_get C ki_Model hK hP 0 rfl rfl 7 (by decide) kw_880 rfl rfl qd_Model_bring_142 ?_
      refine lv_aload_n hx hb qd_Model_bring_145 rfl (lv_at hl 0 rfl) ?_
      refine lv_aload_n hx hb qd_Model_bring_146 rfl (lv_at hl 0 rfl) ?_
      refine lv_aload_n hx hb qd_Model_bring_147 rfl (lv_at hl 0 rfl) ?_
      refine lv_iload hx hb qd_Model_bring_148 (lv_at hl 4 rfl) ?_
      obtain ⟨v3, u2, eu2, hF⟩ := xx_b2_some hF
      refine xx_callV (n := 1) (As := [.int x5]) (rest := [.ref (g.2.1 0), .ref (g.2.1 0), .ref (g.2.1 5)]) C (qc_Model_importAt l g u x5 v3 u2 eu2) ⟨kw_1056, kw_1053, kw_1055, ks_Model_importAt, kw_9⟩ ⟨by decide +kernel, by decide +kernel, by decide +kernel⟩ rfl ⟨Nat.le_of_ble_eq_true rfl, Nat.le_of_ble_eq_true rfl⟩ 0 rfl rfl hl.1 rfl (Nat.le_of_ble_eq_true rfl) hA hK hP hD hS ⟨Nat.le_refl _, Nat.le_refl _⟩ rfl rfl rfl qd_Model_bring_150 (fun H locs hP hD hS => ?_)
      obtain ⟨v5, u4, eu4, hF⟩ := xx_b2_some hF
      refine xx_callV (n := 1) (As := [.int v3]) (rest := [.ref (g.2.1 0), .ref (g.2.1 5)]) C (qc_Model_tapeWord l g u2 v3 v5 u4 eu4) ⟨kw_1040, kw_1037, kw_1039, ks_Model_tapeWord, kw_9⟩ ⟨by decide +kernel, by decide +kernel, by decide +kernel⟩ rfl ⟨Nat.le_of_ble_eq_true rfl, Nat.le_of_ble_eq_true rfl⟩ 0 rfl rfl hl.1 rfl (Nat.le_of_ble_eq_true rfl) hA hK hP hD hS ⟨Nat.le_refl _, Nat.le_refl _⟩ rfl rfl rfl qd_Model_bring_153 (fun H locs hP hD hS => ?_)
      obtain ⟨v7, u6, eu6, hF⟩ := xx_b2_some hF
      refine xx_callV (n := 1) (As := [.int v5]) (rest := [.ref (g.2.1 5)]) C (qc_Model_find l g u4 v5 v7 u6 eu6) ⟨kw_1012, kw_1009, kw_1011, ks_Model_find, kw_9⟩ ⟨by decide +kernel, by decide +kernel, by decide +kernel⟩ rfl ⟨Nat.le_of_ble_eq_true rfl, Nat.le_of_ble_eq_true rfl⟩ 0 rfl rfl hl.1 rfl (Nat.le_of_ble_eq_true rfl) hA hK hP hD hS ⟨Nat.le_refl _, Nat.le_refl _⟩ rfl rfl rfl qd_Model_bring_156 (fun H locs hP hD hS => ?_)
      obtain ⟨v8, ev8, hF⟩ := xx_ob hF
      refine xx_iald C hK hP 5 0 rfl rfl ev8 qd_Model_bring_159 ?_
      refine lv_istore hx hb qd_Model_bring_160 hl (by decide) rfl (fun ls hl => ?_)
      refine lv_iload hx hb qd_Model_bring_162 (lv_at hl 0 rfl) ?_
      refine lv_if_lt (tgt := 180) hx hb qd_Model_bring_164 (by decide) (fun hc => ?_) (fun hc => ?_)
      · have hF := xx_ip hc hF
        exact qw_Model_bring_b180 C hA hK ih  u6 x1 x3 x4 x5 _ _ _ hF (lv_sub hl [1, 2, 3, 4, 5] rfl) hP hD hS
      · have hF := xx_in' hc hF
        refine lv_aload_n hx hb qd_Model_bring_167 rfl (lv_at hl 1 rfl) ?_
        refine xx_get C ki_Model hK hP 0 rfl rfl 14 (by decide) kw_887 rfl rfl qd_Model_bring_168 ?_
        refine lv_bipush (v := (12 : Int32)) hx hb qd_Model_bring_171 (by decide) ?_
        refine lv_iload_n hx hb qd_Model_bring_173 rfl (lv_at hl 2 rfl) ?_
        refine lv_imul hx hb qd_Model_bring_174 ?_
        refine lv_iload hx hb qd_Model_bring_175 (lv_at hl 0 rfl) ?_
        refine lv_iadd hx hb qd_Model_bring_177 ?_
        refine lv_iconst (v := (1 : Int32)) hx hb qd_Model_bring_178 (by decide) ?_
        obtain ⟨f9, ef9, hF⟩ := xx_ob hF
        obtain ⟨u10, eu10, hF⟩ := xx_nm_some hF
        refine xx_zast (ws1 := qm_W g u10) C hK hP hD hS 12 1 rfl rfl ef9 (by rw [eu10]; rfl) qd_Model_bring_179 (fun H locs hP hD hS => ?_)
        exact qw_Model_bring_b180 C hA hK ih  u10 x1 x3 x4 x5 _ _ _ hF (lv_sub hl [1, 2, 3, 4, 5] rfl) hP hD hS
set_option maxHeartbeats 4000000 in
set_option maxRecDepth 100000 in
theorem qw_Model_bring_b44 {p : Program} {l : Launch} {e : Env} {s : State} {m : MethodId} {args : Array Value} {below : List Frame} {meth : Method} {c : Code} {A : Nat → Prop} {g : xx_G} {u9 : qm_S} (C : xx_C p s m args meth c kb_Model_bring 7 kr_Model none) (hA : ∀ q, s.heap.size ≤ q → A q) (hK : va_K g.1 xx_cls (qm_T g) s) : ∀ (n : Nat), ∀ (u : qm_S) (x1 : Int32) (x2 : Int32) (x3 : Int32) (x4 : Int32) (x5 : Int32) (H : Heap) (locs : List Loc) (ls : Array Slot), qf_Model_bring_b44 n u x1 x2 x3 x4 x5 = some u9 → lv_has ls 7 [(0, .ref (g.2.1 0)), (1, .int x1), (2, .int x2), (3, .int x3), (4, .int x4), (5, .int x5)] → va_P g.1 xx_cls (qm_W g u) H → va_D A (qm_W g u) → va_S A s.heap H locs → W p l e (xx_rm 4 104) s m args below meth c H locs 0 0 (MQ below (xx_Q g.1 (qm_T g) (qm_W g) none u9 A) args s 0 0 A) (F0 m 44 ls []) := by
  have hx := C.1
  have hb := C.2.1
  have hown := C.2.2.2.1
  have hts := C.2.2.2.2.1
  intro n
  induction n with
  | zero =>
    intro u x1 x2 x3 x4 x5 H locs ls hF
    rw [qf_Model_bring_b44] at hF
    cases hF
  | succ n ih =>
    intro u x1 x2 x3 x4 x5 H locs ls hF hl hP hD hS
    rw [qf_Model_bring_b44] at hF
    refine lv_iload hx hb qd_Model_bring_44 (lv_at hl 5 rfl) ?_
    refine lv_aload_n hx hb qd_Model_bring_46 rfl (lv_at hl 0 rfl) ?_
    refine xx_get C ki_Model hK hP 0 rfl rfl 26 (by decide) kw_899 rfl rfl qd_Model_bring_47 ?_
    refine lv_icmp_ge (tgt := 78) hx hb qd_Model_bring_50 (by decide) (fun hc => ?_) (fun hc => ?_)
    · have hF := xx_ip hc hF
      refine lv_aload_n hx hb qd_Model_bring_78 rfl (lv_at hl 0 rfl) ?_
      refine xx_get C ki_Model hK hP 0 rfl rfl 8 (by decide) kw_881 rfl rfl qd_Model_bring_79 ?_
      refine lv_iload_n hx hb qd_Model_bring_82 rfl (lv_at hl 1 rfl) ?_
      refine lv_iconst (v := (1 : Int32)) hx hb qd_Model_bring_83 (by decide) ?_
      obtain ⟨f1, ef1, hF⟩ := xx_ob hF
      obtain ⟨u2, eu2, hF⟩ := xx_nm_some hF
      refine xx_zast (ws1 := qm_W g u2) C hK hP hD hS 6 1 rfl rfl ef1 (by rw [eu2]; rfl) qd_Model_bring_84 (fun H locs hP hD hS => ?_)
      refine lv_aload_n hx hb qd_Model_bring_85 rfl (lv_at hl 0 rfl) ?_
      refine xx_get C ki_Model hK hP 0 rfl rfl 9 (by decide) kw_882 rfl rfl qd_Model_bring_86 ?_
      refine lv_iload_n hx hb qd_Model_bring_89 rfl (lv_at hl 1 rfl) ?_
      refine lv_iload_n hx hb qd_Model_bring_90 rfl (lv_at hl 2 rfl) ?_
      obtain ⟨f3, ef3, hF⟩ := xx_ob hF
      obtain ⟨u4, eu4, hF⟩ := xx_nm_some hF
      refine xx_iast (ws1 := qm_W g u4) C hK hP hD hS 7 0 rfl rfl ef3 (by rw [eu4]; rfl) qd_Model_bring_91 (fun H locs hP hD hS => ?_)
      refine lv_aload_n hx hb qd_Model_bring_92 rfl (lv_at hl 0 rfl) ?_
      refine xx_get C ki_Model hK hP 0 rfl rfl 10 (by decide) kw_883 rfl rfl qd_Model_bring_93 ?_
      refine lv_iload_n hx hb qd_Model_bring_96 rfl (lv_at hl 1 rfl) ?_
      refine lv_iload_n hx hb qd_Model_bring_97 rfl (lv_at hl 3 rfl) ?_
      obtain ⟨f5, ef5, hF⟩ := xx_ob hF
      obtain ⟨u6, eu6, hF⟩ := xx_nm_some hF
      refine xx_iast (ws1 := qm_W g u6) C hK hP hD hS 8 0 rfl rfl ef5 (by rw [eu6]; rfl) qd_Model_bring_98 (fun H locs hP hD hS => ?_)
      refine lv_aload_n hx hb qd_Model_bring_99 rfl (lv_at hl 0 rfl) ?_
      refine xx_get C ki_Model hK hP 0 rfl rfl 11 (by decide) kw_884 rfl rfl qd_Model_bring_100 ?_
      refine lv_iload_n hx hb qd_Model_bring_103 rfl (lv_at hl 1 rfl) ?_
      refine lv_aload_n hx hb qd_Model_bring_104 rfl (lv_at hl 0 rfl) ?_
      refine xx_get C ki_Model hK hP 0 rfl rfl 26 (by decide) kw_899 rfl rfl qd_Model_bring_105 ?_
      obtain ⟨f7, ef7, hF⟩ := xx_ob hF
      obtain ⟨u8, eu8, hF⟩ := xx_nm_some hF
      refine xx_iast (ws1 := qm_W g u8) C hK hP hD hS 9 0 rfl rfl ef7 (by rw [eu8]; rfl) qd_Model_bring_108 (fun H locs hP hD hS => ?_)
      refine lv_aload_n hx hb qd_Model_bring_109 rfl (lv_at hl 0 rfl) ?_
      refine xx_get C ki_Model hK hP 0 rfl rfl 12 (by decide) kw_885 rfl rfl qd_Model_bring_110 ?_
      refine lv_iload_n hx hb qd_Model_bring_113 rfl (lv_at hl 1 rfl) ?_
      refine lv_aload_n hx hb qd_Model_bring_114 rfl (lv_at hl 0 rfl) ?_
      refine xx_get C ki_Model hK hP 0 rfl rfl 29 (by decide) kw_902 rfl rfl qd_Model_bring_115 ?_
      obtain ⟨f9, ef9, hF⟩ := xx_ob hF
      obtain ⟨u10, eu10, hF⟩ := xx_nm_some hF
      refine xx_iast (ws1 := qm_W g u10) C hK hP hD hS 10 0 rfl rfl ef9 (by rw [eu10]; rfl) qd_Model_bring_118 (fun H locs hP hD hS => ?_)
      refine lv_aload_n hx hb qd_Model_bring_119 rfl (lv_at hl 0 rfl) ?_
      refine xx_get C ki_Model hK hP 0 rfl rfl 13 (by decide) kw_886 rfl rfl qd_Model_bring_120 ?_
      refine lv_iload_n hx hb qd_Model_bring_123 rfl (lv_at hl 1 rfl) ?_
      refine lv_aload_n hx hb qd_Model_bring_124 rfl (lv_at hl 0 rfl) ?_
      refine xx_get C ki_Model hK hP 0 rfl rfl 28 (by decide) kw_901 rfl rfl qd_Model_bring_125 ?_
      obtain ⟨f11, ef11, hF⟩ := xx_ob hF
      obtain ⟨u12, eu12, hF⟩ := xx_nm_some hF
      refine xx_iast (ws1 := qm_W g u12) C hK hP hD hS 11 0 rfl rfl ef11 (by rw [eu12]; rfl) qd_Model_bring_128 (fun H locs hP hD hS => ?_)
      refine lv_iconst (v := (0 : Int32)) hx hb qd_Model_bring_129 (by decide) ?_
      obtain ⟨v13, ev13, hF⟩ := xx_nm_some hF
      refine xx_topi ev13 ?_
      refine lv_istore hx hb qd_Model_bring_130 hl (by decide) rfl (fun ls hl => ?_)
      exact qw_Model_bring_b132 C hA hK xx_fu u12 x1 x3 x4 v13 _ _ _ hF (lv_sub hl [1, 2, 4, 5, 0] rfl) hP hD hS
    · have hF := xx_in' hc hF
      refine lv_aload_n hx hb qd_Model_bring_53 rfl (lv_at hl 0 rfl) ?_
      refine xx_get C ki_Model hK hP 0 rfl rfl 1 (by decide) kw_874 rfl rfl qd_Model_bring_54 ?_
      refine lv_iload_n hx hb qd_Model_bring_57 rfl (lv_at hl 3 rfl) ?_
      refine lv_iload hx hb qd_Model_bring_58 (lv_at hl 5 rfl) ?_
      refine lv_iadd hx hb qd_Model_bring_60 ?_
      refine lv_aload_n hx hb qd_Model_bring_61 rfl (lv_at hl 0 rfl) ?_
      refine xx_get C ki_Model hK hP 0 rfl rfl 16 (by decide) kw_889 rfl rfl qd_Model_bring_62 ?_
      refine lv_bipush (v := (32 : Int32)) hx hb qd_Model_bring_65 (by decide) ?_
      refine lv_iload hx hb qd_Model_bring_67 (lv_at hl 5 rfl) ?_
      refine lv_iadd hx hb qd_Model_bring_69 ?_
      obtain ⟨v14, ev14, hF⟩ := xx_ob hF
      refine xx_iald C hK hP 13 0 rfl rfl ev14 qd_Model_bring_70 ?_
      obtain ⟨f15, ef15, hF⟩ := xx_ob hF
      obtain ⟨u16, eu16, hF⟩ := xx_nm_some hF
      refine xx_iast (ws1 := qm_W g u16) C hK hP hD hS 1 0 rfl rfl ef15 (by rw [eu16]; rfl) qd_Model_bring_71 (fun H locs hP hD hS => ?_)
      obtain ⟨v17, ev17, hF⟩ := xx_nm_some hF
      refine lv_iinc (k := 5) (v := v17) hx hb qd_Model_bring_72 hl rfl (by rw [ev17, xx_lit1]) (by decide) rfl (fun ls hl => ?_)
      refine lv_goto (tgt := 44) hx hb qd_Model_bring_75 (by decide) ?_
      exact ih u16 x1 x2 x3 x4 v17 _ _ _ hF (lv_sub hl [1, 2, 3, 4, 5, 0] rfl) hP hD hS
set_option maxHeartbeats 4000000 in
set_option maxRecDepth 100000 in
theorem qw_Model_bring_b3 {p : Program} {l : Launch} {e : Env} {s : State} {m : MethodId} {args : Array Value} {below : List Frame} {meth : Method} {c : Code} {A : Nat → Prop} {g : xx_G} {u9 : qm_S} (C : xx_C p s m args meth c kb_Model_bring 7 kr_Model none) (hA : ∀ q, s.heap.size ≤ q → A q) (hK : va_K g.1 xx_cls (qm_T g) s) : ∀ (n : Nat), ∀ (u : qm_S) (x1 : Int32) (x2 : Int32) (x3 : Int32) (x4 : Int32) (x5 : Int32) (H : Heap) (locs : List Loc) (ls : Array Slot), qf_Model_bring_b3 n u x1 x2 x3 x4 x5 = some u9 → lv_has ls 7 [(0, .ref (g.2.1 0)), (1, .int x1), (2, .int x2), (3, .int x3), (4, .int x4), (5, .int x5)] → va_P g.1 xx_cls (qm_W g u) H → va_D A (qm_W g u) → va_S A s.heap H locs → W p l e (xx_rm 4 104) s m args below meth c H locs 0 0 (MQ below (xx_Q g.1 (qm_T g) (qm_W g) none u9 A) args s 0 0 A) (F0 m 3 ls []) := by
  have hx := C.1
  have hb := C.2.1
  have hown := C.2.2.2.1
  have hts := C.2.2.2.2.1
  intro n
  induction n with
  | zero =>
    intro u x1 x2 x3 x4 x5 H locs ls hF
    rw [qf_Model_bring_b3] at hF
    cases hF
  | succ n ih =>
    intro u x1 x2 x3 x4 x5 H locs ls hF hl hP hD hS
    rw [qf_Model_bring_b3] at hF
    refine lv_iload hx hb qd_Model_bring_3 (lv_at hl 5 rfl) ?_
    refine lv_aload_n hx hb qd_Model_bring_5 rfl (lv_at hl 0 rfl) ?_
    refine xx_get C ki_Model hK hP 0 rfl rfl 25 (by decide) kw_898 rfl rfl qd_Model_bring_6 ?_
    refine lv_icmp_ge (tgt := 41) hx hb qd_Model_bring_9 (by decide) (fun hc => ?_) (fun hc => ?_)
    · have hF := xx_ip hc hF
      refine lv_iconst (v := (0 : Int32)) hx hb qd_Model_bring_41 (by decide) ?_
      obtain ⟨v1, ev1, hF⟩ := xx_nm_some hF
      refine xx_topi ev1 ?_
      refine lv_istore hx hb qd_Model_bring_42 hl (by decide) rfl (fun ls hl => ?_)
      exact qw_Model_bring_b44 C hA hK xx_fu u x1 x2 x3 x4 v1 _ _ _ hF (lv_sub hl [1, 2, 3, 4, 5, 0] rfl) hP hD hS
    · have hF := xx_in' hc hF
      refine lv_aload_n hx hb qd_Model_bring_12 rfl (lv_at hl 0 rfl) ?_
      refine lv_iload_n hx hb qd_Model_bring_13 rfl (lv_at hl 3 rfl) ?_
      refine lv_iload hx hb qd_Model_bring_14 (lv_at hl 5 rfl) ?_
      obtain ⟨v3, u2, eu2, hF⟩ := xx_b2_some hF
      refine xx_callV (n := 2) (As := [.int x3, .int x5]) (rest := []) C (qc_Model_mend l g u x3 x5 v3 u2 eu2) ⟨kw_1088, kw_1085, kw_1087, ks_Model_mend, kw_9⟩ ⟨by decide +kernel, by decide +kernel, by decide +kernel⟩ rfl ⟨Nat.le_of_ble_eq_true rfl, Nat.le_of_ble_eq_true rfl⟩ 0 rfl rfl hl.1 rfl (Nat.le_of_ble_eq_true rfl) hA hK hP hD hS ⟨Nat.le_refl _, Nat.le_refl _⟩ rfl rfl rfl qd_Model_bring_16 (fun H locs hP hD hS => ?_)
      refine lv_if_eq (tgt := 25) hx hb qd_Model_bring_19 (by decide) (fun hc => ?_) (fun hc => ?_)
      · have hF := xx_ip hc hF
        refine lv_aload_n hx hb qd_Model_bring_25 rfl (lv_at hl 0 rfl) ?_
        refine lv_bipush (v := (7 : Int32)) hx hb qd_Model_bring_26 (by decide) ?_
        refine lv_iload hx hb qd_Model_bring_28 (lv_at hl 5 rfl) ?_
        obtain ⟨v5, u4, eu4, hF⟩ := xx_b2_some hF
        refine xx_callV (n := 2) (As := [.int (7 : Int32), .int x5]) (rest := []) C (qc_Model_wrong l g u2 (7 : Int32) x5 v5 u4 eu4) ⟨kw_1060, kw_1057, kw_1059, ks_Model_wrong, kw_9⟩ ⟨by decide +kernel, by decide +kernel, by decide +kernel⟩ rfl ⟨Nat.le_of_ble_eq_true rfl, Nat.le_of_ble_eq_true rfl⟩ 0 rfl rfl hl.1 rfl (Nat.le_of_ble_eq_true rfl) hA hK hP hD hS ⟨Nat.le_refl _, Nat.le_refl _⟩ rfl rfl rfl qd_Model_bring_30 (fun H locs hP hD hS => ?_)
        refine lv_pop hx hb qd_Model_bring_33 rfl ?_
        exact xx_vret C hF hK hP hD hS qd_Model_bring_34
      · have hF := xx_in' hc hF
        refine lv_goto (tgt := 35) hx hb qd_Model_bring_22 (by decide) ?_
        obtain ⟨v6, ev6, hF⟩ := xx_nm_some hF
        refine lv_iinc (k := 5) (v := v6) hx hb qd_Model_bring_35 hl rfl (by rw [ev6, xx_lit1]) (by decide) rfl (fun ls hl => ?_)
        refine lv_goto (tgt := 3) hx hb qd_Model_bring_38 (by decide) ?_
        exact ih u2 x1 x2 x3 x4 v6 _ _ _ hF (lv_sub hl [1, 2, 3, 4, 5, 0] rfl) hP hD hS
set_option maxHeartbeats 4000000 in
set_option maxRecDepth 100000 in
theorem qc_Model_bring (l : Launch) (g : xx_G) (u : qm_S) (x1 : Int32) (x2 : Int32) (x3 : Int32) (x4 : Int32) (u9 : qm_S) (hF : qf_Model_bring u x1 x2 x3 x4 = some u9) : xx_M l g.1 (qm_T g) (qm_W g) ky_Model_bring kb_Model_bring 7 none (xx_rm 4 104) [.ref (g.2.1 0), .int x1, .int x2, .int x3, .int x4] u none u9 := by
  refine xx_body (by decide) (Nat.le_of_ble_eq_true rfl) ?_
  intro p e s m args below meth c A ls C hin hK hl hA hP hD hS
  have hx := C.1
  have hb := C.2.1
  have hown := C.2.2.2.1
  have hts := C.2.2.2.2.1
  have hl : lv_has ls 7 [(0, .ref (g.2.1 0)), (1, .int x1), (2, .int x2), (3, .int x3), (4, .int x4)] := hl
  unfold qf_Model_bring at hF
  refine lv_iconst (v := (0 : Int32)) hx hb qd_Model_bring_0 (by decide) ?_
  obtain ⟨v1, ev1, hF⟩ := xx_nm_some hF
  refine xx_topi ev1 ?_
  refine lv_istore hx hb qd_Model_bring_1 hl (by decide) rfl (fun ls hl => ?_)
  exact qw_Model_bring_b3 C hA hK xx_fu u x1 x2 x3 x4 v1 _ _ _ hF (lv_sub hl [1, 2, 3, 4, 5, 0] rfl) hP hD hS
