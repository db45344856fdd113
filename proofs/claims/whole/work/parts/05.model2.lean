theorem kw_887 : Cond.fieldLink "ModuleLoaderModel" 44 "ModuleLoaderModel" "needs" "[Z" ∈ xx_tb := xx_in (List.mem_append_right _ (List.mem_of_getElem? (i := 887) (by decide +kernel))) (by decide +kernel)
theorem qd_Model_remove_0 : decode kb_Model_remove 0 = .ok (.aload_n 0, 1) := by decide +kernel
theorem qd_Model_remove_1 : decode kb_Model_remove 1 = .ok (.getfield 25, 3) := by decide +kernel
theorem qd_Model_remove_4 : decode kb_Model_remove 4 = .ok (.iload_n 1, 1) := by decide +kernel
theorem qd_Model_remove_5 : decode kb_Model_remove 5 = .ok (.iconst 0, 1) := by decide +kernel
theorem qd_Model_remove_6 : decode kb_Model_remove 6 = .ok (.bastore, 1) := by decide +kernel
theorem qd_Model_remove_7 : decode kb_Model_remove 7 = .ok (.iconst 0, 1) := by decide +kernel
theorem qd_Model_remove_8 : decode kb_Model_remove 8 = .ok (.istore_n 2, 1) := by decide +kernel
theorem qd_Model_remove_9 : decode kb_Model_remove 9 = .ok (.iconst 0, 1) := by decide +kernel
theorem qd_Model_remove_10 : decode kb_Model_remove 10 = .ok (.istore_n 3, 1) := by decide +kernel
theorem qd_Model_remove_11 : decode kb_Model_remove 11 = .ok (.iload_n 3, 1) := by decide +kernel
theorem qd_Model_remove_12 : decode kb_Model_remove 12 = .ok (.aload_n 0, 1) := by decide +kernel
theorem qd_Model_remove_13 : decode kb_Model_remove 13 = .ok (.getfield 80, 3) := by decide +kernel
theorem qd_Model_remove_16 : decode kb_Model_remove 16 = .ok (.if_icmp .ge (73), 3) := by decide +kernel
theorem qd_Model_remove_19 : decode kb_Model_remove 19 = .ok (.aload_n 0, 1) := by decide +kernel
theorem qd_Model_remove_20 : decode kb_Model_remove 20 = .ok (.getfield 22, 3) := by decide +kernel
theorem qd_Model_remove_23 : decode kb_Model_remove 23 = .ok (.iload_n 3, 1) := by decide +kernel
theorem qd_Model_remove_24 : decode kb_Model_remove 24 = .ok (.iaload, 1) := by decide +kernel
theorem qd_Model_remove_25 : decode kb_Model_remove 25 = .ok (.iload_n 1, 1) := by decide +kernel
theorem qd_Model_remove_26 : decode kb_Model_remove 26 = .ok (.if_icmp .ne (6), 3) := by decide +kernel
theorem qd_Model_remove_29 : decode kb_Model_remove 29 = .ok (.goto (54), 3) := by decide +kernel
theorem qd_Model_remove_32 : decode kb_Model_remove 32 = .ok (.aload_n 0, 1) := by decide +kernel
theorem qd_Model_remove_33 : decode kb_Model_remove 33 = .ok (.getfield 13, 3) := by decide +kernel
theorem qd_Model_remove_36 : decode kb_Model_remove 36 = .ok (.iload_n 2, 1) := by decide +kernel
theorem qd_Model_remove_37 : decode kb_Model_remove 37 = .ok (.aload_n 0, 1) := by decide +kernel
theorem qd_Model_remove_38 : decode kb_Model_remove 38 = .ok (.getfield 13, 3) := by decide +kernel
theorem qd_Model_remove_41 : decode kb_Model_remove 41 = .ok (.iload_n 3, 1) := by decide +kernel
theorem qd_Model_remove_42 : decode kb_Model_remove 42 = .ok (.iaload, 1) := by decide +kernel
theorem qd_Model_remove_43 : decode kb_Model_remove 43 = .ok (.iastore, 1) := by decide +kernel
theorem qd_Model_remove_44 : decode kb_Model_remove 44 = .ok (.aload_n 0, 1) := by decide +kernel
theorem qd_Model_remove_45 : decode kb_Model_remove 45 = .ok (.getfield 16, 3) := by decide +kernel
theorem qd_Model_remove_48 : decode kb_Model_remove 48 = .ok (.iload_n 2, 1) := by decide +kernel
theorem qd_Model_remove_49 : decode kb_Model_remove 49 = .ok (.aload_n 0, 1) := by decide +kernel
theorem qd_Model_remove_50 : decode kb_Model_remove 50 = .ok (.getfield 16, 3) := by decide +kernel
theorem qd_Model_remove_53 : decode kb_Model_remove 53 = .ok (.iload_n 3, 1) := by decide +kernel
theorem qd_Model_remove_54 : decode kb_Model_remove 54 = .ok (.iaload, 1) := by decide +kernel
theorem qd_Model_remove_55 : decode kb_Model_remove 55 = .ok (.iastore, 1) := by decide +kernel
theorem qd_Model_remove_56 : decode kb_Model_remove 56 = .ok (.aload_n 0, 1) := by decide +kernel
theorem qd_Model_remove_57 : decode kb_Model_remove 57 = .ok (.getfield 19, 3) := by decide +kernel
theorem qd_Model_remove_60 : decode kb_Model_remove 60 = .ok (.iload_n 2, 1) := by decide +kernel
theorem qd_Model_remove_61 : decode kb_Model_remove 61 = .ok (.aload_n 0, 1) := by decide +kernel
theorem qd_Model_remove_62 : decode kb_Model_remove 62 = .ok (.getfield 19, 3) := by decide +kernel
theorem qd_Model_remove_65 : decode kb_Model_remove 65 = .ok (.iload_n 3, 1) := by decide +kernel
theorem qd_Model_remove_66 : decode kb_Model_remove 66 = .ok (.iaload, 1) := by decide +kernel
theorem qd_Model_remove_67 : decode kb_Model_remove 67 = .ok (.iastore, 1) := by decide +kernel
theorem qd_Model_remove_68 : decode kb_Model_remove 68 = .ok (.aload_n 0, 1) := by decide +kernel
theorem qd_Model_remove_69 : decode kb_Model_remove 69 = .ok (.getfield 22, 3) := by decide +kernel
theorem qd_Model_remove_72 : decode kb_Model_remove 72 = .ok (.iload_n 2, 1) := by decide +kernel
theorem qd_Model_remove_73 : decode kb_Model_remove 73 = .ok (.aload_n 0, 1) := by decide +kernel
theorem qd_Model_remove_74 : decode kb_Model_remove 74 = .ok (.getfield 22, 3) := by decide +kernel
theorem qd_Model_remove_77 : decode kb_Model_remove 77 = .ok (.iload_n 3, 1) := by decide +kernel
theorem qd_Model_remove_78 : decode kb_Model_remove 78 = .ok (.iaload, 1) := by decide +kernel
theorem qd_Model_remove_79 : decode kb_Model_remove 79 = .ok (.iastore, 1) := by decide +kernel
theorem qd_Model_remove_80 : decode kb_Model_remove 80 = .ok (.iinc 2 (1), 3) := by decide +kernel
theorem qd_Model_remove_83 : decode kb_Model_remove 83 = .ok (.iinc 3 (1), 3) := by decide +kernel
theorem qd_Model_remove_86 : decode kb_Model_remove 86 = .ok (.goto (-75), 3) := by decide +kernel
theorem qd_Model_remove_89 : decode kb_Model_remove 89 = .ok (.aload_n 0, 1) := by decide +kernel
theorem qd_Model_remove_90 : decode kb_Model_remove 90 = .ok (.iload_n 2, 1) := by decide +kernel
theorem qd_Model_remove_91 : decode kb_Model_remove 91 = .ok (.putfield 80, 3) := by decide +kernel
theorem qd_Model_remove_94 : decode kb_Model_remove 94 = .ok (.iconst 0, 1) := by decide +kernel
theorem qd_Model_remove_95 : decode kb_Model_remove 95 = .ok (.istore_n 3, 1) := by decide +kernel
theorem qd_Model_remove_96 : decode kb_Model_remove 96 = .ok (.iload_n 3, 1) := by decide +kernel
theorem qd_Model_remove_97 : decode kb_Model_remove 97 = .ok (.bipush (12), 2) := by decide +kernel
theorem qd_Model_remove_99 : decode kb_Model_remove 99 = .ok (.if_icmp .ge (21), 3) := by decide +kernel
theorem qd_Model_remove_102 : decode kb_Model_remove 102 = .ok (.aload_n 0, 1) := by decide +kernel
theorem qd_Model_remove_103 : decode kb_Model_remove 103 = .ok (.getfield 44, 3) := by decide +kernel
theorem qd_Model_remove_106 : decode kb_Model_remove 106 = .ok (.bipush (12), 2) := by decide +kernel
theorem qd_Model_remove_108 : decode kb_Model_remove 108 = .ok (.iload_n 1, 1) := by decide +kernel
theorem qd_Model_remove_109 : decode kb_Model_remove 109 = .ok (.imul, 1) := by decide +kernel
theorem qd_Model_remove_110 : decode kb_Model_remove 110 = .ok (.iload_n 3, 1) := by decide +kernel
theorem qd_Model_remove_111 : decode kb_Model_remove 111 = .ok (.iadd, 1) := by decide +kernel
theorem qd_Model_remove_112 : decode kb_Model_remove 112 = .ok (.iconst 0, 1) := by decide +kernel
theorem qd_Model_remove_113 : decode kb_Model_remove 113 = .ok (.bastore, 1) := by decide +kernel
theorem qd_Model_remove_114 : decode kb_Model_remove 114 = .ok (.iinc 3 (1), 3) := by decide +kernel
theorem qd_Model_remove_117 : decode kb_Model_remove 117 = .ok (.goto (-21), 3) := by decide +kernel
theorem qd_Model_remove_120 : decode kb_Model_remove 120 = .ok (.return_, 1) := by decide +kernel
def qf_Model_remove_b83 (rec11 : qm_S → Int32 → Int32 → Int32 → Option (qm_S)) (u : qm_S) (x1 : Int32) (x2 : Int32) (x3 : Int32) : Option (qm_S) := xx_nm (x3 + (1 : Int32)) fun v1 => rec11 u x1 x2 v1
def qf_Model_remove_b96 : Nat → qm_S → Int32 → Int32 → Option (qm_S)
  | 0, _, _, _ => none
  | n + 1, u, x1, x3 => if (12 : Int32) ≤ x3 then (some u) else ((xx_as (u.2 12) 144 (((12 : Int32) * x1) + x3) (vp_nar .boolean (0 : Int32))).bind fun f1 => xx_nm (u.1, va_up u.2 12 f1) fun u2 => xx_nm (x3 + (1 : Int32)) fun v3 => (qf_Model_remove_b96 n) u2 x1 v3)
def qf_Model_remove_b11 : Nat → qm_S → Int32 → Int32 → Int32 → Option (qm_S)
  | 0, _, _, _, _ => none
  | n + 1, u, x1, x2, x3 => if (u.1 3) ≤ x3 then (xx_nm (va_up u.1 3 x2, u.2) fun u1 => xx_nm (0 : Int32) fun v2 => qf_Model_remove_b96 xx_fu u1 x1 v2) else ((xx_ag (u.2 5) 40 x3).bind fun v3 => if v3 = x1 then (qf_Model_remove_b83 (qf_Model_remove_b11 n) u x1 x2 x3) else ((xx_ag (u.2 2) 40 x3).bind fun v4 => (xx_as (u.2 2) 40 x2 v4).bind fun f5 => xx_nm (u.1, va_up u.2 2 f5) fun u6 => (xx_ag (u6.2 3) 40 x3).bind fun v7 => (xx_as (u6.2 3) 40 x2 v7).bind fun f8 => xx_nm (u6.1, va_up u6.2 3 f8) fun u9 => (xx_ag (u9.2 4) 40 x3).bind fun v10 => (xx_as (u9.2 4) 40 x2 v10).bind fun f11 => xx_nm (u9.1, va_up u9.2 4 f11) fun u12 => (xx_ag (u12.2 5) 40 x3).bind fun v13 => (xx_as (u12.2 5) 40 x2 v13).bind fun f14 => xx_nm (u12.1, va_up u12.2 5 f14) fun u15 => xx_nm (x2 + (1 : Int32)) fun v16 => qf_Model_remove_b83 (qf_Model_remove_b11 n) u15 x1 v16 x3))
def qf_Model_remove (u : qm_S) (x1 : Int32) : Option (qm_S) := (xx_as (u.2 6) 12 x1 (vp_nar .boolean (0 : Int32))).bind fun f1 => xx_nm (u.1, va_up u.2 6 f1) fun u2 => xx_nm (0 : Int32) fun v3 => xx_nm (0 : Int32) fun v4 => qf_Model_remove_b11 xx_fu u2 x1 v3 v4
set_option maxHeartbeats 4000000 in
set_option maxRecDepth 100000 in
theorem qw_Model_remove_b83 {p : Program} {l : Launch} {e : Env} {s : State} {m : MethodId} {args : Array Value} {below : List Frame} {meth : Method} {c : Code} {A : Nat → Prop} {g : xx_G} {u9 : qm_S} (C : xx_C p s m args meth c kb_Model_remove 4 kr_Model none) (hA : ∀ q, s.heap.size ≤ q → A q) (hK : va_K g.1 xx_cls (qm_T g) s) {rec11 : qm_S → Int32 → Int32 → Int32 → Option (qm_S)} (hrec11 : ∀ (u : qm_S) (x1 : Int32) (x2 : Int32) (x3 : Int32) (H : Heap) (locs : List Loc) (ls : Array Slot), rec11 u x1 x2 x3 = some u9 → lv_has ls 4 [(0, .ref (g.2.1 0)), (1, .int x1), (2, .int x2), (3, .int x3)] → va_P g.1 xx_cls (qm_W g u) H → va_D A (qm_W g u) → va_S A s.heap H locs → W p l e (xx_rm 0 0) s m args below meth c H locs 0 0 (MQ below (xx_Q g.1 (qm_T g) (qm_W g) none u9 A) args s 0 0 A) (F0 m 11 ls [])) : ∀ (u : qm_S) (x1 : Int32) (x2 : Int32) (x3 : Int32) (H : Heap) (locs : List Loc) (ls : Array Slot), qf_Model_remove_b83 rec11 u x1 x2 x3 = some u9 → lv_has ls 4 [(0, .ref (g.2.1 0)), (1, .int x1), (2, .int x2), (3, .int x3)] → va_P g.1 xx_cls (qm_W g u) H → va_D A (qm_W g u) → va_S A s.heap H locs → W p l e (xx_rm 0 0) s m args below meth c H locs 0 0 (MQ below (xx_Q g.1 (qm_T g) (qm_W g) none u9 A) args s 0 0 A) (F0 m 83 ls []) := by
  have hx := C.1
  have hb := C.2.1
  have hown := C.2.2.2.1
  have hts := C.2.2.2.2.1
  intro u x1 x2 x3 H locs ls hF hl hP hD hS
  unfold qf_Model_remove_b83 at hF
  obtain ⟨v1, ev1, hF⟩ := xx_nm_some hF
  refine lv_iinc (k := 3) (v := v1) hx hb qd_Model_remove_83 hl rfl (by rw [ev1, xx_lit1]) (by decide) rfl (fun ls hl => ?_)
  refine lv_goto (tgt := 11) hx hb qd_Model_remove_86 (by decide) ?_
  exact hrec11 u x1 x2 v1 _ _ _ hF (lv_sub hl [1, 2, 3, 0] rfl) hP hD hS
set_option maxHeartbeats 4000000 in
set_option maxRecDepth 100000 in
theorem qw_Model_remove_b96 {p : Program} {l : Launch} {e : Env} {s : State} {m : MethodId} {args : Array Value} {below : List Frame} {meth : Method} {c : Code} {A : Nat → Prop} {g : xx_G} {u9 : qm_S} (C : xx_C p s m args meth c kb_Model_remove 4 kr_Model none) (hA : ∀ q, s.heap.size ≤ q → A q) (hK : va_K g.1 xx_cls (qm_T g) s) : ∀ (n : Nat), ∀ (u : qm_S) (x1 : Int32) (x3 : Int32) (H : Heap) (locs : List Loc) (ls : Array Slot), qf_Model_remove_b96 n u x1 x3 = some u9 → lv_has ls 4 [(0, .ref (g.2.1 0)), (1, .int x1), (3, .int x3)] → va_P g.1 xx_cls (qm_W g u) H → va_D A (qm_W g u) → va_S A s.heap H locs → W p l e (xx_rm 0 0) s m args below meth c H locs 0 0 (MQ below (xx_Q g.1 (qm_T g) (qm_W g) none u9 A) args s 0 0 A) (F0 m 96 ls []) := by
  have hx := C.1
  have hb := C.2.1
  have hown := C.2.2.2.1
  have hts := C.2.2.2.2.1
  intro n
  induction n with
  | zero =>
    intro u x1 x3 H locs ls hF
    rw [qf_Model_remove_b96] at hF
    cases hF
  | succ n ih =>
    intro u x1 x3 H locs ls hF hl hP hD hS
    rw [qf_Model_remove_b96] at hF
    refine lv_iload_n hx hb qd_Model_remove_96 rfl (lv_at hl 2 rfl) ?_
    refine lv_bipush (v := (12 : Int32)) hx hb qd_Model_remove_97 (by decide) ?_
    refine lv_icmp_ge (tgt := 120) hx hb qd_Model_remove_99 (by decide) (fun hc => ?_) (fun hc => ?_)
    · have hF := xx_ip hc hF
      exact xx_vret C hF hK hP hD hS qd_Model_remove_120
    · have hF := xx_in' hc hF
      refine lv_aload_n hx hb qd_Model_remove_102 rfl (lv_at hl 0 rfl) ?_
      refine xx_get C ki_Model hK hP 0 rfl rfl 14 (by decide) kw_887 rfl rfl qd_Model_remove_103 ?_
      refine lv_bipush (v := (12 : Int32)) hx hb qd_Model_remove_106 (by decide) ?_
      refine lv_iload_n hx hb qd_Model_remove_108 rfl (lv_at hl 1 rfl) ?_
      refine lv_imul hx hb qd_Model_remove_109 ?_
      refine lv_iload_n hx hb qd_Model_remove_110 rfl (lv_at hl 2 rfl) ?_
      refine lv_iadd hx hb qd_Model_remove_111 ?_
      refine lv_iconst (v := (0 : Int32)) hx hb qd_Model_remove_112 (by decide) ?_
      obtain ⟨f1, ef1, hF⟩ := xx_ob hF
      obtain ⟨u2, eu2, hF⟩ := xx_nm_some hF
      refine xx_zast (ws1 := qm_W g u2) C hK hP hD hS 12 1 rfl rfl ef1 (by rw [eu2]; rfl) qd_Model_remove_113 (fun H locs hP hD hS => ?_)
      obtain ⟨v3, ev3, hF⟩ := xx_nm_some hF
      refine lv_iinc (k := 2) (v := v3) hx hb qd_Model_remove_114 hl rfl (by rw [ev3, xx_lit1]) (by decide) rfl (fun ls hl => ?_)
      refine lv_goto (tgt := 96) hx hb qd_Model_remove_117 (by decide) ?_
      exact ih u2 x1 v3 _ _ _ hF (lv_sub hl [1, 2, 0] rfl) hP hD hS
set_option maxHeartbeats 4000000 in
set_option maxRecDepth 100000 in
theorem qw_Model_remove_b11 {p : Program} {l : Launch} {e : Env} {s : State} {m : MethodId} {args : Array Value} {below : List Frame} {meth : Method} {c : Code} {A : Nat → Prop} {g : xx_G} {u9 : qm_S} (C : xx_C p s m args meth c kb_Model_remove 4 kr_Model none) (hA : ∀ q, s.heap.size ≤ q → A q) (hK : va_K g.1 xx_cls (qm_T g) s) : ∀ (n : Nat), ∀ (u : qm_S) (x1 : Int32) (x2 : Int32) (x3 : Int32) (H : Heap) (locs : List Loc) (ls : Array Slot), qf_Model_remove_b11 n u x1 x2 x3 = some u9 → lv_has ls 4 [(0, .ref (g.2.1 0)), (1, .int x1), (2, .int x2), (3, .int x3)] → va_P g.1 xx_cls (qm_W g u) H → va_D A (qm_W g u) → va_S A s.heap H locs → W p l e (xx_rm 0 0) s m args below meth c H locs 0 0 (MQ below (xx_Q g.1 (qm_T g) (qm_W g) none u9 A) args s 0 0 A) (F0 m 11 ls []) := by
  have hx := C.1
  have hb := C.2.1
  have hown := C.2.2.2.1
  have hts := C.2.2.2.2.1
  intro n
  induction n with
  | zero =>
    intro u x1 x2 x3 H locs ls hF
    rw [qf_Model_remove_b11] at hF
    cases hF
  | succ n ih =>
    intro u x1 x2 x3 H locs ls hF hl hP hD hS
    rw [qf_Model_remove_b11] at hF
    refine lv_iload_n hx hb qd_Model_remove_11 rfl (lv_at hl 3 rfl) ?_
    refine lv_aload_n hx hb qd_Model_remove_12 rfl (lv_at hl 0 rfl) ?_
    refine xx_get C ki_Model hK hP 0 rfl rfl 3 (by decide) kw_876 rfl rfl qd_Model_remove_13 ?_
    refine lv_icmp_ge (tgt := 89) hx hb qd_Model_remove_16 (by decide) (fun hc => ?_) (fun hc => ?_)
    · have hF := xx_ip hc hF
      refine lv_aload_n hx hb qd_Model_remove_89 rfl (lv_at hl 0 rfl) ?_
      refine lv_iload_n hx hb qd_Model_remove_90 rfl (lv_at hl 2 rfl) ?_
      obtain ⟨u1, eu1, hF⟩ := xx_nm_some hF
      refine xx_put (ws1 := qm_W g u1) C ki_Model kt_Model ko_Model kn_Model hK hP hD hS 0 rfl rfl 3 (by decide) kw_876 rfl rfl rfl rfl (Nat.le_of_ble_eq_true rfl) (by rw [eu1]; rfl) qd_Model_remove_91 (fun H locs hP hD hS => ?_)
      refine lv_iconst (v := (0 : Int32)) hx hb qd_Model_remove_94 (by decide) ?_
      obtain ⟨v2, ev2, hF⟩ := xx_nm_some hF
      refine xx_topi ev2 ?_
      refine lv_istore_n hx hb qd_Model_remove_95 rfl hl (by decide) rfl (fun ls hl => ?_)
      exact qw_Model_remove_b96 C hA hK xx_fu u1 x1 v2 _ _ _ hF (lv_sub hl [1, 2, 0] rfl) hP hD hS
    · have hF := xx_in' hc hF
      refine lv_aload_n hx hb qd_Model_remove_19 rfl (lv_at hl 0 rfl) ?_
      refine xx_get C ki_Model hK hP 0 rfl rfl 7 (by decide) kw_880 rfl rfl qd_Model_remove_20 ?_
      refine lv_iload_n hx hb qd_Model_remove_23 rfl (lv_at hl 3 rfl) ?_
      obtain ⟨v3, ev3, hF⟩ := xx_ob hF
      refine xx_iald C hK hP 5 0 rfl rfl ev3 qd_Model_remove_24 ?_
      refine lv_iload_n hx hb qd_Model_remove_25 rfl (lv_at hl 1 rfl) ?_
      refine lv_icmp_ne (tgt := 32) hx hb qd_Model_remove_26 (by decide) (fun hc => ?_) (fun hc => ?_)
      · have hF := xx_in' hc hF
        refine lv_aload_n hx hb qd_Model_remove_32 rfl (lv_at hl 0 rfl) ?_
        refine xx_get C ki_Model hK hP 0 rfl rfl 4 (by decide) kw_877 rfl rfl qd_Model_remove_33 ?_
        refine lv_iload_n hx hb qd_Model_remove_36 rfl (lv_at hl 2 rfl) ?_
        refine lv_aload_n hx hb qd_Model_remove_37 rfl (lv_at hl 0 rfl) ?_
        refine xx_get C ki_Model hK hP 0 rfl rfl 4 (by decide) kw_877 rfl rfl qd_Model_remove_38 ?_
        refine lv_iload_n hx hb qd_Model_remove_41 rfl (lv_at hl 3 rfl) ?_
        obtain ⟨v4, ev4, hF⟩ := xx_ob hF
        refine xx_iald C hK hP 2 0 rfl rfl ev4 qd_Model_remove_42 ?_
        obtain ⟨f5, ef5, hF⟩ := xx_ob hF
        obtain ⟨u6, eu6, hF⟩ := xx_nm_some hF
        refine xx_iast (ws1 := qm_W g u6) C hK hP hD hS 2 0 rfl rfl ef5 (by rw [eu6]; rfl) qd_Model_remove_43 (fun H locs hP hD hS => ?_)
        refine lv_aload_n hx hb qd_Model_remove_44 rfl (lv_at hl 0 rfl) ?_
        refine xx_get C ki_Model hK hP 0 rfl rfl 5 (by decide) kw_878 rfl rfl qd_Model_remove_45 ?_
        refine lv_iload_n hx hb qd_Model_remove_48 rfl (lv_at hl 2 rfl) ?_
        refine lv_aload_n hx hb qd_Model_remove_49 rfl (lv_at hl 0 rfl) ?_
        refine xx_get C ki_Model hK hP 0 rfl rfl 5 (by decide) kw_878 rfl rfl qd_Model_remove_50 ?_
        refine lv_iload_n hx hb qd_Model_remove_53 rfl (lv_at hl 3 rfl) ?_
        obtain ⟨v7, ev7, hF⟩ := xx_ob hF
        refine xx_iald C hK hP 3 0 rfl rfl ev7 qd_Model_remove_54 ?_
        obtain ⟨f8, ef8, hF⟩ := xx_ob hF
        obtain ⟨u9, eu9, hF⟩ := xx_nm_some hF
        refine xx_iast (ws1 := qm_W g u9) C hK hP hD hS 3 0 rfl rfl ef8 (by rw [eu9]; rfl) qd_Model_remove_55 (fun H locs hP hD hS => ?_)
        refine lv_aload_n hx hb qd_Model_remove_56 rfl (lv_at hl 0 rfl) ?_
        refine xx_get C ki_Model hK hP 0 rfl rfl 6 (by decide) kw_879 rfl rfl qd_Model_remove_57 ?_
        refine lv_iload_n hx hb qd_Model_remove_60 rfl (lv_at hl 2 rfl) ?_
        refine lv_aload_n hx hb qd_Model_remove_61 rfl (lv_at hl 0 rfl) ?_
        refine xx_get C ki_Model hK hP 0 rfl rfl 6 (by decide) kw_879 rfl rfl qd_Model_remove_62 ?_
        refine lv_iload_n hx hb qd_Model_remove_65 rfl (lv_at hl 3 rfl) ?_
        obtain ⟨v10, ev10, hF⟩ := xx_ob hF
        refine xx_iald C hK hP 4 0 rfl rfl ev10 qd_Model_remove_66 ?_
        obtain ⟨f11, ef11, hF⟩ := xx_ob hF
        obtain ⟨u12, eu12, hF⟩ := xx_nm_some hF
        refine xx_iast (ws1 := qm_W g u12) C hK hP hD hS 4 0 rfl rfl ef11 (by rw [eu12]; rfl) qd_Model_remove_67 (fun H locs hP hD hS => ?_)
        refine lv_aload_n hx hb qd_Model_remove_68 rfl (lv_at hl 0 rfl) ?_
        refine xx_get C ki_Model hK hP 0 rfl rfl 7 (by decide) kw_880 rfl rfl qd_Model_remove_69 ?_
        refine lv_iload_n hx hb qd_Model_remove_72 rfl (lv_at hl 2 rfl) ?_
        refine lv_aload_n hx hb qd_Model_remove_73 rfl (lv_at hl 0 rfl) ?_
        refine xx_get C ki_Model hK hP 0 rfl rfl 7 (by decide) kw_880 rfl rfl qd_Model_remove_74 ?_
        refine lv_iload_n hx hb qd_Model_remove_77 rfl (lv_at hl 3 rfl) ?_
        obtain ⟨v13, ev13, hF⟩ := xx_ob hF
        refine xx_iald C hK hP 5 0 rfl rfl ev13 qd_Model_remove_78 ?_
        obtain ⟨f14, ef14, hF⟩ := xx_ob hF
        obtain ⟨u15, eu15, hF⟩ := xx_nm_some hF
        refine xx_iast (ws1 := qm_W g u15) C hK hP hD hS 5 0 rfl rfl ef14 (by rw [eu15]; rfl) qd_Model_remove_79 (fun H locs hP hD hS => ?_)
        obtain ⟨v16, ev16, hF⟩ := xx_nm_some hF
        refine lv_iinc (k := 2) (v := v16) hx hb qd_Model_remove_80 hl rfl (by rw [ev16, xx_lit1]) (by decide) rfl (fun ls hl => ?_)
        exact qw_Model_remove_b83 C hA hK ih  u15 x1 v16 x3 _ _ _ hF (lv_sub hl [1, 2, 0, 3] rfl) hP hD hS
      · have hF := xx_ip hc hF
        refine lv_goto (tgt := 83) hx hb qd_Model_remove_29 (by decide) ?_
        exact qw_Model_remove_b83 C hA hK ih  u x1 x2 x3 _ _ _ hF (lv_sub hl [0, 1, 2, 3] rfl) hP hD hS
set_option maxHeartbeats 4000000 in
set_option maxRecDepth 100000 in
theorem qc_Model_remove (l : Launch) (g : xx_G) (u : qm_S) (x1 : Int32) (u9 : qm_S) (hF : qf_Model_remove u x1 = some u9) : xx_M l g.1 (qm_T g) (qm_W g) ky_Model_remove kb_Model_remove 4 none (xx_rm 0 0) [.ref (g.2.1 0), .int x1] u none u9 := by
  refine xx_body (by decide) (Nat.le_of_ble_eq_true rfl) ?_
  intro p e s m args below meth c A ls C hin hK hl hA hP hD hS
  have hx := C.1
  have hb := C.2.1
  have hown := C.2.2.2.1
  have hts := C.2.2.2.2.1
  have hl : lv_has ls 4 [(0, .ref (g.2.1 0)), (1, .int x1)] := hl
  unfold qf_Model_remove at hF
  refine lv_aload_n hx hb qd_Model_remove_0 rfl (lv_at hl 0 rfl) ?_
  refine xx_get C ki_Model hK hP 0 rfl rfl 8 (by decide) kw_881 rfl rfl qd_Model_remove_1 ?_
  refine lv_iload_n hx hb qd_Model_remove_4 rfl (lv_at hl 1 rfl) ?_
  refine lv_iconst (v := (0 : Int32)) hx hb qd_Model_remove_5 (by decide) ?_
  obtain ⟨f1, ef1, hF⟩ := xx_ob hF
  obtain ⟨u2, eu2, hF⟩ := xx_nm_some hF
  refine xx_zast (ws1 := qm_W g u2) C hK hP hD hS 6 1 rfl rfl ef1 (by rw [eu2]; rfl) qd_Model_remove_6 (fun H locs hP hD hS => ?_)
  refine lv_iconst (v := (0 : Int32)) hx hb qd_Model_remove_7 (by decide) ?_
  obtain ⟨v3, ev3, hF⟩ := xx_nm_some hF
  refine xx_topi ev3 ?_
  refine lv_istore_n hx hb qd_Model_remove_8 rfl hl (by decide) rfl (fun ls hl => ?_)
  refine lv_iconst (v := (0 : Int32)) hx hb qd_Model_remove_9 (by decide) ?_
  obtain ⟨v4, ev4, hF⟩ := xx_nm_some hF
  refine xx_topi ev4 ?_
  refine lv_istore_n hx hb qd_Model_remove_10 rfl hl (by decide) rfl (fun ls hl => ?_)
  exact qw_Model_remove_b11 C hA hK xx_fu u2 x1 v3 v4 _ _ _ hF (lv_sub hl [2, 3, 1, 0] rfl) hP hD hS
theorem kw_888 : Cond.fieldLink "ModuleLoaderModel" 93 "ModuleLoaderModel" "taped" "I" ∈ xx_tb := xx_in (List.mem_append_right _ (List.mem_of_getElem? (i := 888) (by decide +kernel))) (by decide +kernel)
theorem kw_889 : Cond.fieldLink "ModuleLoaderModel" 47 "ModuleLoaderModel" "tape" "[I" ∈ xx_tb := xx_in (List.mem_append_right _ (List.mem_of_getElem? (i := 889) (by decide +kernel))) (by decide +kernel)
theorem qd_Model_feed_0 : decode kb_Model_feed 0 = .ok (.aload_n 0, 1) := by decide +kernel
theorem qd_Model_feed_1 : decode kb_Model_feed 1 = .ok (.iconst 0, 1) := by decide +kernel
theorem qd_Model_feed_2 : decode kb_Model_feed 2 = .ok (.putfield 57, 3) := by decide +kernel
theorem qd_Model_feed_5 : decode kb_Model_feed 5 = .ok (.aload_n 0, 1) := by decide +kernel
theorem qd_Model_feed_6 : decode kb_Model_feed 6 = .ok (.getfield 93, 3) := by decide +kernel
theorem qd_Model_feed_9 : decode kb_Model_feed 9 = .ok (.iconst 4, 1) := by decide +kernel
theorem qd_Model_feed_10 : decode kb_Model_feed 10 = .ok (.iadd, 1) := by decide +kernel
theorem qd_Model_feed_11 : decode kb_Model_feed 11 = .ok (.sipush (1200), 3) := by decide +kernel
theorem qd_Model_feed_14 : decode kb_Model_feed 14 = .ok (.if_icmp .le (5), 3) := by decide +kernel
theorem qd_Model_feed_17 : decode kb_Model_feed 17 = .ok (.iconst (-1), 1) := by decide +kernel
theorem qd_Model_feed_18 : decode kb_Model_feed 18 = .ok (.ireturn, 1) := by decide +kernel
theorem qd_Model_feed_19 : decode kb_Model_feed 19 = .ok (.iconst 0, 1) := by decide +kernel
theorem qd_Model_feed_20 : decode kb_Model_feed 20 = .ok (.istore_n 2, 1) := by decide +kernel
theorem qd_Model_feed_21 : decode kb_Model_feed 21 = .ok (.iload_n 2, 1) := by decide +kernel
theorem qd_Model_feed_22 : decode kb_Model_feed 22 = .ok (.iconst 4, 1) := by decide +kernel
theorem qd_Model_feed_23 : decode kb_Model_feed 23 = .ok (.if_icmp .ge (30), 3) := by decide +kernel
theorem qd_Model_feed_26 : decode kb_Model_feed 26 = .ok (.aload_n 0, 1) := by decide +kernel
theorem qd_Model_feed_27 : decode kb_Model_feed 27 = .ok (.getfield 47, 3) := by decide +kernel
theorem qd_Model_feed_30 : decode kb_Model_feed 30 = .ok (.aload_n 0, 1) := by decide +kernel
theorem qd_Model_feed_31 : decode kb_Model_feed 31 = .ok (.getfield 93, 3) := by decide +kernel
theorem qd_Model_feed_34 : decode kb_Model_feed 34 = .ok (.iload_n 2, 1) := by decide +kernel
theorem qd_Model_feed_35 : decode kb_Model_feed 35 = .ok (.iadd, 1) := by decide +kernel
theorem qd_Model_feed_36 : decode kb_Model_feed 36 = .ok (.iload_n 1, 1) := by decide +kernel
theorem qd_Model_feed_37 : decode kb_Model_feed 37 = .ok (.bipush (8), 2) := by decide +kernel
theorem qd_Model_feed_39 : decode kb_Model_feed 39 = .ok (.iload_n 2, 1) := by decide +kernel
theorem qd_Model_feed_40 : decode kb_Model_feed 40 = .ok (.imul, 1) := by decide +kernel
theorem qd_Model_feed_41 : decode kb_Model_feed 41 = .ok (.ishr, 1) := by decide +kernel
theorem qd_Model_feed_42 : decode kb_Model_feed 42 = .ok (.sipush (255), 3) := by decide +kernel
theorem qd_Model_feed_45 : decode kb_Model_feed 45 = .ok (.iand, 1) := by decide +kernel
theorem qd_Model_feed_46 : decode kb_Model_feed 46 = .ok (.iastore, 1) := by decide +kernel
theorem qd_Model_feed_47 : decode kb_Model_feed 47 = .ok (.iinc 2 (1), 3) := by decide +kernel
theorem qd_Model_feed_50 : decode kb_Model_feed 50 = .ok (.goto (-29), 3) := by decide +kernel
theorem qd_Model_feed_53 : decode kb_Model_feed 53 = .ok (.aload_n 0, 1) := by decide +kernel
theorem qd_Model_feed_54 : decode kb_Model_feed 54 = .ok (.dup, 1) := by decide +kernel
theorem qd_Model_feed_55 : decode kb_Model_feed 55 = .ok (.getfield 93, 3) := by decide +kernel
theorem qd_Model_feed_58 : decode kb_Model_feed 58 = .ok (.iconst 4, 1) := by decide +kernel
theorem qd_Model_feed_59 : decode kb_Model_feed 59 = .ok (.iadd, 1) := by decide +kernel
theorem qd_Model_feed_60 : decode kb_Model_feed 60 = .ok (.putfield 93, 3) := by decide +kernel
theorem qd_Model_feed_63 : decode kb_Model_feed 63 = .ok (.aload_n 0, 1) := by decide +kernel
theorem qd_Model_feed_64 : decode kb_Model_feed 64 = .ok (.getfield 93, 3) := by decide +kernel
theorem qd_Model_feed_67 : decode kb_Model_feed 67 = .ok (.ireturn, 1) := by decide +kernel
def qf_Model_feed_b21 : Nat → qm_S → Int32 → Int32 → Option (Int32 × qm_S)
  | 0, _, _, _ => none
  | n + 1, u, x1, x2 => if (4 : Int32) ≤ x2 then (xx_nm ((u.1 15) + (4 : Int32)) fun v1 => xx_nm (va_up u.1 15 v1, u.2) fun u2 => some ((u2.1 15), u2)) else ((xx_as (u.2 13) 1200 ((u.1 15) + x2) ((x1 >>> (((8 : Int32) * x2) &&& 31)) &&& (255 : Int32))).bind fun f3 => xx_nm (u.1, va_up u.2 13 f3) fun u4 => xx_nm (x2 + (1 : Int32)) fun v5 => (qf_Model_feed_b21 n) u4 x1 v5)
def qf_Model_feed (u : qm_S) (x1 : Int32) : Option (Int32 × qm_S) := xx_nm (va_up u.1 0 (0 : Int32), u.2) fun u1 => if ((u1.1 15) + (4 : Int32)) ≤ (1200 : Int32) then (xx_nm (0 : Int32) fun v2 => qf_Model_feed_b21 xx_fu u1 x1 v2) else (some ((-1 : Int32), u1))
set_option maxHeartbeats 4000000 in
set_option maxRecDepth 100000 in
theorem qw_Model_feed_b21 {p : Program} {l : Launch} {e : Env} {s : State} {m : MethodId} {args : Array Value} {below : List Frame} {meth : Method} {c : Code} {A : Nat → Prop} {g : xx_G} {r : Int32} {u9 : qm_S} (C : xx_C p s m args meth c kb_Model_feed 3 kr_Model (some .int)) (hA : ∀ q, s.heap.size ≤ q → A q) (hK : va_K g.1 xx_cls (qm_T g) s) : ∀ (n : Nat), ∀ (u : qm_S) (x1 : Int32) (x2 : Int32) (H : Heap) (locs : List Loc) (ls : Array Slot), qf_Model_feed_b21 n u x1 x2 = some (r, u9) → lv_has ls 3 [(0, .ref (g.2.1 0)), (1, .int x1), (2, .int x2)] → va_P g.1 xx_cls (qm_W g u) H → va_D A (qm_W g u) → va_S A s.heap H locs → W p l e (xx_rm 0 0) s m args below meth c H locs 0 0 (MQ below (xx_Q g.1 (qm_T g) (qm_W g) (some (.int r)) u9 A) args s 0 0 A) (F0 m 21 ls []) := by
  have hx := C.1
  have hb := C.2.1
  have hown := C.2.2.2.1
  have hts := C.2.2.2.2.1
  intro n
  induction n with
  | zero =>
    intro u x1 x2 H locs ls hF
    rw [qf_Model_feed_b21] at hF
    cases hF
  | succ n ih =>
    intro u x1 x2 H locs ls hF hl hP hD hS
    rw [qf_Model_feed_b21] at hF
    refine lv_iload_n hx hb qd_Model_feed_21 rfl (lv_at hl 2 rfl) ?_
    refine lv_iconst (v := (4 : Int32)) hx hb qd_Model_feed_22 (by decide) ?_
    refine lv_icmp_ge (tgt := 53) hx hb qd_Model_feed_23 (by decide) (fun hc => ?_) (fun hc => ?_)
    · have hF := xx_ip hc hF
      refine lv_aload_n hx hb qd_Model_feed_53 rfl (lv_at hl 0 rfl) ?_
      refine lv_dup hx hb qd_Model_feed_54 rfl ?_
      refine xx_get C ki_Model hK hP 0 rfl rfl 15 (by decide) kw_888 rfl rfl qd_Model_feed_55 ?_
      refine lv_iconst (v := (4 : Int32)) hx hb qd_Model_feed_58 (by decide) ?_
      refine lv_iadd hx hb qd_Model_feed_59 ?_
      obtain ⟨v1, ev1, hF⟩ := xx_nm_some hF
      refine xx_topi ev1 ?_
      obtain ⟨u2, eu2, hF⟩ := xx_nm_some hF
      refine xx_put (ws1 := qm_W g u2) C ki_Model kt_Model ko_Model kn_Model hK hP hD hS 0 rfl rfl 15 (by decide) kw_888 rfl rfl rfl rfl (Nat.le_of_ble_eq_true rfl) (by rw [eu2]; rfl) qd_Model_feed_60 (fun H locs hP hD hS => ?_)
      refine lv_aload_n hx hb qd_Model_feed_63 rfl (lv_at hl 0 rfl) ?_
      refine xx_get C ki_Model hK hP 0 rfl rfl 15 (by decide) kw_888 rfl rfl qd_Model_feed_64 ?_
      exact xx_iret C hF hK hP hD hS qd_Model_feed_67
    · have hF := xx_in' hc hF
      refine lv_aload_n hx hb qd_Model_feed_26 rfl (lv_at hl 0 rfl) ?_
      refine xx_get C ki_Model hK hP 0 rfl rfl 16 (by decide) kw_889 rfl rfl qd_Model_feed_27 ?_
      refine lv_aload_n hx hb qd_Model_feed_30 rfl (lv_at hl 0 rfl) ?_
      refine xx_get C ki_Model hK hP 0 rfl rfl 15 (by decide) kw_888 rfl rfl qd_Model_feed_31 ?_
      refine lv_iload_n hx hb qd_Model_feed_34 rfl (lv_at hl 2 rfl) ?_
      refine lv_iadd hx hb qd_Model_feed_35 ?_
      refine lv_iload_n hx hb qd_Model_feed_36 rfl (lv_at hl 1 rfl) ?_
      refine lv_bipush (v := (8 : Int32)) hx hb qd_Model_feed_37 (by decide) ?_
      refine lv_iload_n hx hb qd_Model_feed_39 rfl (lv_at hl 2 rfl) ?_
      refine lv_imul hx hb qd_Model_feed_40 ?_
      refine lv_ishr hx hb qd_Model_feed_41 ?_
      refine lv_sipush (v := (255 : Int32)) hx hb qd_Model_feed_42 (by decide) ?_
      refine lv_iand hx hb qd_Model_feed_45 ?_
      obtain ⟨f3, ef3, hF⟩ := xx_ob hF
      obtain ⟨u4, eu4, hF⟩ := xx_nm_some hF
      refine xx_iast (ws1 := qm_W g u4) C hK hP hD hS 13 0 rfl rfl ef3 (by rw [eu4]; rfl) qd_Model_feed_46 (fun H locs hP hD hS => ?_)
      obtain ⟨v5, ev5, hF⟩ := xx_nm_some hF
      refine lv_iinc (k := 2) (v := v5) hx hb qd_Model_feed_47 hl rfl (by rw [ev5, xx_lit1]) (by decide) rfl (fun ls hl => ?_)
      refine lv_goto (tgt := 21) hx hb qd_Model_feed_50 (by decide) ?_
      exact ih u4 x1 v5 _ _ _ hF (lv_sub hl [1, 2, 0] rfl) hP hD hS
set_option maxHeartbeats 4000000 in
set_option maxRecDepth 100000 in
theorem qc_Model_feed (l : Launch) (g : xx_G) (u : qm_S) (x1 : Int32) (r : Int32) (u9 : qm_S) (hF : qf_Model_feed u x1 = some (r, u9)) : xx_M l g.1 (qm_T g) (qm_W g) ky_Model_feed kb_Model_feed 3 (some .int) (xx_rm 0 0) [.ref (g.2.1 0), .int x1] u (some (.int r)) u9 := by
  refine xx_body (by decide) (Nat.le_of_ble_eq_true rfl) ?_
  intro p e s m args below meth c A ls C hin hK hl hA hP hD hS
  have hx := C.1
  have hb := C.2.1
  have hown := C.2.2.2.1
  have hts := C.2.2.2.2.1
  have hl : lv_has ls 3 [(0, .ref (g.2.1 0)), (1, .int x1)] := hl
  unfold qf_Model_feed at hF
  refine lv_aload_n hx hb qd_Model_feed_0 rfl (lv_at hl 0 rfl) ?_
  refine lv_iconst (v := (0 : Int32)) hx hb qd_Model_feed_1 (by decide) ?_
  obtain ⟨u1, eu1, hF⟩ := xx_nm_some hF
  refine xx_put (ws1 := qm_W g u1) C ki_Model kt_Model ko_Model kn_Model hK hP hD hS 0 rfl rfl 0 (by decide) kw_873 rfl rfl rfl rfl (Nat.le_of_ble_eq_true rfl) (by rw [eu1]; rfl) qd_Model_feed_2 (fun H locs hP hD hS => ?_)
  refine lv_aload_n hx hb qd_Model_feed_5 rfl (lv_at hl 0 rfl) ?_
  refine xx_get C ki_Model hK hP 0 rfl rfl 15 (by decide) kw_888 rfl rfl qd_Model_feed_6 ?_
  refine lv_iconst (v := (4 : Int32)) hx hb qd_Model_feed_9 (by decide) ?_
  refine lv_iadd hx hb qd_Model_feed_10 ?_
  refine lv_sipush (v := (1200 : Int32)) hx hb qd_Model_feed_11 (by decide) ?_
  refine lv_icmp_le (tgt := 19) hx hb qd_Model_feed_14 (by decide) (fun hc => ?_) (fun hc => ?_)
  · have hF := xx_ip hc hF
    refine lv_iconst (v := (0 : Int32)) hx hb qd_Model_feed_19 (by decide) ?_
    obtain ⟨v2, ev2, hF⟩ := xx_nm_some hF
    refine xx_topi ev2 ?_
    refine lv_istore_n hx hb qd_Model_feed_20 rfl hl (by decide) rfl (fun ls hl => ?_)
    exact qw_Model_feed_b21 C hA hK xx_fu u1 x1 v2 _ _ _ hF (lv_sub hl [1, 2, 0] rfl) hP hD hS
  · have hF := xx_in' hc hF
    refine lv_iconst (v := (-1 : Int32)) hx hb qd_Model_feed_17 (by decide) ?_
    exact xx_iret C hF hK hP hD hS qd_Model_feed_18
theorem qd_Model_feedByte_0 : decode kb_Model_feedByte 0 = .ok (.aload_n 0, 1) := by decide +kernel
theorem qd_Model_feedByte_1 : decode kb_Model_feedByte 1 = .ok (.iconst 0, 1) := by decide +kernel
theorem qd_Model_feedByte_2 : decode kb_Model_feedByte 2 = .ok (.putfield 57, 3) := by decide +kernel
theorem qd_Model_feedByte_5 : decode kb_Model_feedByte 5 = .ok (.aload_n 0, 1) := by decide +kernel
theorem qd_Model_feedByte_6 : decode kb_Model_feedByte 6 = .ok (.getfield 93, 3) := by decide +kernel
theorem qd_Model_feedByte_9 : decode kb_Model_feedByte 9 = .ok (.sipush (1200), 3) := by decide +kernel
theorem qd_Model_feedByte_12 : decode kb_Model_feedByte 12 = .ok (.if_icmp .ne (5), 3) := by decide +kernel
theorem qd_Model_feedByte_15 : decode kb_Model_feedByte 15 = .ok (.iconst (-1), 1) := by decide +kernel
theorem qd_Model_feedByte_16 : decode kb_Model_feedByte 16 = .ok (.ireturn, 1) := by decide +kernel
theorem qd_Model_feedByte_17 : decode kb_Model_feedByte 17 = .ok (.aload_n 0, 1) := by decide +kernel
theorem qd_Model_feedByte_18 : decode kb_Model_feedByte 18 = .ok (.getfield 47, 3) := by decide +kernel
theorem qd_Model_feedByte_21 : decode kb_Model_feedByte 21 = .ok (.aload_n 0, 1) := by decide +kernel
theorem qd_Model_feedByte_22 : decode kb_Model_feedByte 22 = .ok (.getfield 93, 3) := by decide +kernel
theorem qd_Model_feedByte_25 : decode kb_Model_feedByte 25 = .ok (.iload_n 1, 1) := by decide +kernel
theorem qd_Model_feedByte_26 : decode kb_Model_feedByte 26 = .ok (.sipush (255), 3) := by decide +kernel
theorem qd_Model_feedByte_29 : decode kb_Model_feedByte 29 = .ok (.iand, 1) := by decide +kernel
theorem qd_Model_feedByte_30 : decode kb_Model_feedByte 30 = .ok (.iastore, 1) := by decide +kernel
theorem qd_Model_feedByte_31 : decode kb_Model_feedByte 31 = .ok (.aload_n 0, 1) := by decide +kernel
theorem qd_Model_feedByte_32 : decode kb_Model_feedByte 32 = .ok (.dup, 1) := by decide +kernel
theorem qd_Model_feedByte_33 : decode kb_Model_feedByte 33 = .ok (.getfield 93, 3) := by decide +kernel
theorem qd_Model_feedByte_36 : decode kb_Model_feedByte 36 = .ok (.iconst 1, 1) := by decide +kernel
theorem qd_Model_feedByte_37 : decode kb_Model_feedByte 37 = .ok (.iadd, 1) := by decide +kernel
theorem qd_Model_feedByte_38 : decode kb_Model_feedByte 38 = .ok (.putfield 93, 3) := by decide +kernel
theorem qd_Model_feedByte_41 : decode kb_Model_feedByte 41 = .ok (.aload_n 0, 1) := by decide +kernel
theorem qd_Model_feedByte_42 : decode kb_Model_feedByte 42 = .ok (.getfield 93, 3) := by decide +kernel
theorem qd_Model_feedByte_45 : decode kb_Model_feedByte 45 = .ok (.ireturn, 1) := by decide +kernel
def qf_Model_feedByte (u : qm_S) (x1 : Int32) : Option (Int32 × qm_S) := xx_nm (va_up u.1 0 (0 : Int32), u.2) fun u1 => if (u1.1 15) = (1200 : Int32) then (some ((-1 : Int32), u1)) else ((xx_as (u1.2 13) 1200 (u1.1 15) (x1 &&& (255 : Int32))).bind fun f2 => xx_nm (u1.1, va_up u1.2 13 f2) fun u3 => xx_nm ((u3.1 15) + (1 : Int32)) fun v4 => xx_nm (va_up u3.1 15 v4, u3.2) fun u5 => some ((u5.1 15), u5))
set_option maxHeartbeats 4000000 in
set_option maxRecDepth 100000 in
theorem qc_Model_feedByte (l : Launch) (g : xx_G) (u : qm_S) (x1 : Int32) (r : Int32) (u9 : qm_S) (hF : qf_Model_feedByte u x1 = some (r, u9)) : xx_M l g.1 (qm_T g) (qm_W g) ky_Model_feedByte kb_Model_feedByte 2 (some .int) (xx_rm 0 0) [.ref (g.2.1 0), .int x1] u (some (.int r)) u9 := by
  refine xx_body (by decide) (Nat.le_of_ble_eq_true rfl) ?_
  intro p e s m args below meth c A ls C hin hK hl hA hP hD hS
  have hx := C.1
  have hb := C.2.1
  have hown := C.2.2.2.1
  have hts := C.2.2.2.2.1
  have hl : lv_has ls 2 [(0, .ref (g.2.1 0)), (1, .int x1)] := hl
  unfold qf_Model_feedByte at hF
  refine lv_aload_n hx hb qd_Model_feedByte_0 rfl (lv_at hl 0 rfl) ?_
  refine lv_iconst (v := (0 : Int32)) hx hb qd_Model_feedByte_1 (by decide) ?_
  obtain ⟨u1, eu1, hF⟩ := xx_nm_some hF
  refine xx_put (ws1 := qm_W g u1) C ki_Model kt_Model ko_Model kn_Model hK hP hD hS 0 rfl rfl 0 (by decide) kw_873 rfl rfl rfl rfl (Nat.le_of_ble_eq_true rfl) (by rw [eu1]; rfl) qd_Model_feedByte_2 (fun H locs hP hD hS => ?_)
  refine lv_aload_n hx hb qd_Model_feedByte_5 rfl (lv_at hl 0 rfl) ?_
  refine xx_get C ki_Model hK hP 0 rfl rfl 15 (by decide) kw_888 rfl rfl qd_Model_feedByte_6 ?_
  refine lv_sipush (v := (1200 : Int32)) hx hb qd_Model_feedByte_9 (by decide) ?_
  refine lv_icmp_ne (tgt := 17) hx hb qd_Model_feedByte_12 (by decide) (fun hc => ?_) (fun hc => ?_)
  · have hF := xx_in' hc hF
    refine lv_aload_n hx hb qd_Model_feedByte_17 rfl (lv_at hl 0 rfl) ?_
    refine xx_get C ki_Model hK hP 0 rfl rfl 16 (by decide) kw_889 rfl rfl qd_Model_feedByte_18 ?_
    refine lv_aload_n hx hb qd_Model_feedByte_21 rfl (lv_at hl 0 rfl) ?_
    refine xx_get C ki_Model hK hP 0 rfl rfl 15 (by decide) kw_888 rfl rfl qd_Model_feedByte_22 ?_
    refine lv_iload_n hx hb qd_Model_feedByte_25 rfl (lv_at hl 1 rfl) ?_
    refine lv_sipush (v := (255 : Int32)) hx hb qd_Model_feedByte_26 (by decide) ?_
    refine lv_iand hx hb qd_Model_feedByte_29 ?_
    obtain ⟨f2, ef2, hF⟩ := xx_ob hF
    obtain ⟨u3, eu3, hF⟩ := xx_nm_some hF
    refine xx_iast (ws1 := qm_W g u3) C hK hP hD hS 13 0 rfl rfl ef2 (by rw [eu3]; rfl) qd_Model_feedByte_30 (fun H locs hP hD hS => ?_)
    refine lv_aload_n hx hb qd_Model_feedByte_31 rfl (lv_at hl 0 rfl) ?_
    refine lv_dup hx hb qd_Model_feedByte_32 rfl ?_
    refine xx_get C ki_Model hK hP 0 rfl rfl 15 (by decide) kw_888 rfl rfl qd_Model_feedByte_33 ?_
    refine lv_iconst (v := (1 : Int32)) hx hb qd_Model_feedByte_36 (by decide) ?_
    refine lv_iadd hx hb qd_Model_feedByte_37 ?_
    obtain ⟨v4, ev4, hF⟩ := xx_nm_some hF
    refine xx_topi ev4 ?_
    obtain ⟨u5, eu5, hF⟩ := xx_nm_some hF
    refine xx_put (ws1 := qm_W g u5) C ki_Model kt_Model ko_Model kn_Model hK hP hD hS 0 rfl rfl 15 (by decide) kw_888 rfl rfl rfl rfl (Nat.le_of_ble_eq_true rfl) (by rw [eu5]; rfl) qd_Model_feedByte_38 (fun H locs hP hD hS => ?_)
    refine lv_aload_n hx hb qd_Model_feedByte_41 rfl (lv_at hl 0 rfl) ?_
    refine xx_get C ki_Model hK hP 0 rfl rfl 15 (by decide) kw_888 rfl rfl qd_Model_feedByte_42 ?_
    exact xx_iret C hF hK hP hD hS qd_Model_feedByte_45
  · have hF := xx_ip hc hF
    refine lv_iconst (v := (-1 : Int32)) hx hb qd_Model_feedByte_15 (by decide) ?_
    exact xx_iret C hF hK hP hD hS qd_Model_feedByte_16
theorem qd_Model_tapeWord_0 : decode kb_Model_tapeWord 0 = .ok (.aload_n 0, 1) := by decide +kernel
theorem qd_Model_tapeWord_1 : decode kb_Model_tapeWord 1 = .ok (.getfield 47, 3) := by decide +kernel
theorem qd_Model_tapeWord_4 : decode kb_Model_tapeWord 4 = .ok (.iload_n 1, 1) := by decide +kernel
theorem qd_Model_tapeWord_5 : decode kb_Model_tapeWord 5 = .ok (.iaload, 1) := by decide +kernel
theorem qd_Model_tapeWord_6 : decode kb_Model_tapeWord 6 = .ok (.aload_n 0, 1) := by decide +kernel
theorem qd_Model_tapeWord_7 : decode kb_Model_tapeWord 7 = .ok (.getfield 47, 3) := by decide +kernel
theorem qd_Model_tapeWord_10 : decode kb_Model_tapeWord 10 = .ok (.iload_n 1, 1) := by decide +kernel
theorem qd_Model_tapeWord_11 : decode kb_Model_tapeWord 11 = .ok (.iconst 1, 1) := by decide +kernel
theorem qd_Model_tapeWord_12 : decode kb_Model_tapeWord 12 = .ok (.iadd, 1) := by decide +kernel
theorem qd_Model_tapeWord_13 : decode kb_Model_tapeWord 13 = .ok (.iaload, 1) := by decide +kernel
theorem qd_Model_tapeWord_14 : decode kb_Model_tapeWord 14 = .ok (.bipush (8), 2) := by decide +kernel
theorem qd_Model_tapeWord_16 : decode kb_Model_tapeWord 16 = .ok (.ishl, 1) := by decide +kernel
theorem qd_Model_tapeWord_17 : decode kb_Model_tapeWord 17 = .ok (.ior, 1) := by decide +kernel
theorem qd_Model_tapeWord_18 : decode kb_Model_tapeWord 18 = .ok (.aload_n 0, 1) := by decide +kernel
theorem qd_Model_tapeWord_19 : decode kb_Model_tapeWord 19 = .ok (.getfield 47, 3) := by decide +kernel
theorem qd_Model_tapeWord_22 : decode kb_Model_tapeWord 22 = .ok (.iload_n 1, 1) := by decide +kernel
theorem qd_Model_tapeWord_23 : decode kb_Model_tapeWord 23 = .ok (.iconst 2, 1) := by decide +kernel
theorem qd_Model_tapeWord_24 : decode kb_Model_tapeWord 24 = .ok (.iadd, 1) := by decide +kernel
theorem qd_Model_tapeWord_25 : decode kb_Model_tapeWord 25 = .ok (.iaload, 1) := by decide +kernel
theorem qd_Model_tapeWord_26 : decode kb_Model_tapeWord 26 = .ok (.bipush (16), 2) := by decide +kernel
theorem qd_Model_tapeWord_28 : decode kb_Model_tapeWord 28 = .ok (.ishl, 1) := by decide +kernel
theorem qd_Model_tapeWord_29 : decode kb_Model_tapeWord 29 = .ok (.ior, 1) := by decide +kernel
theorem qd_Model_tapeWord_30 : decode kb_Model_tapeWord 30 = .ok (.aload_n 0, 1) := by decide +kernel
theorem qd_Model_tapeWord_31 : decode kb_Model_tapeWord 31 = .ok (.getfield 47, 3) := by decide +kernel
theorem qd_Model_tapeWord_34 : decode kb_Model_tapeWord 34 = .ok (.iload_n 1, 1) := by decide +kernel
theorem qd_Model_tapeWord_35 : decode kb_Model_tapeWord 35 = .ok (.iconst 3, 1) := by decide +kernel
theorem qd_Model_tapeWord_36 : decode kb_Model_tapeWord 36 = .ok (.iadd, 1) := by decide +kernel
theorem qd_Model_tapeWord_37 : decode kb_Model_tapeWord 37 = .ok (.iaload, 1) := by decide +kernel
theorem qd_Model_tapeWord_38 : decode kb_Model_tapeWord 38 = .ok (.bipush (24), 2) := by decide +kernel
theorem qd_Model_tapeWord_40 : decode kb_Model_tapeWord 40 = .ok (.ishl, 1) := by decide +kernel
theorem qd_Model_tapeWord_41 : decode kb_Model_tapeWord 41 = .ok (.ior, 1) := by decide +kernel
theorem qd_Model_tapeWord_42 : decode kb_Model_tapeWord 42 = .ok (.ireturn, 1) := by decide +kernel
def qf_Model_tapeWord (u : qm_S) (x1 : Int32) : Option (Int32 × qm_S) := (xx_ag (u.2 13) 1200 x1).bind fun v1 => (xx_ag (u.2 13) 1200 (x1 + (1 : Int32))).bind fun v2 => (xx_ag (u.2 13) 1200 (x1 + (2 : Int32))).bind fun v3 => (xx_ag (u.2 13) 1200 (x1 + (3 : Int32))).bind fun v4 => some ((((v1 ||| (v2 <<< ((8 : Int32) &&& 31))) ||| (v3 <<< ((16 : Int32) &&& 31))) ||| (v4 <<< ((24 : Int32) &&& 31))), u)
set_option maxHeartbeats 4000000 in
set_option maxRecDepth 100000 in
theorem qc_Model_tapeWord (l : Launch) (g : xx_G) (u : qm_S) (x1 : Int32) (r : Int32) (u9 : qm_S) (hF : qf_Model_tapeWord u x1 = some (r, u9)) : xx_M l g.1 (qm_T g) (qm_W g) ky_Model_tapeWord kb_Model_tapeWord 2 (some .int) (xx_rm 0 0) [.ref (g.2.1 0), .int x1] u (some (.int r)) u9 := by
  refine xx_body (by decide) (Nat.le_of_ble_eq_true rfl) ?_
  intro p e s m args below meth c A ls C hin hK hl hA hP hD hS
  have hx := C.1
  have hb := C.2.1
  have hown := C.2.2.2.1
  have hts := C.2.2.2.2.1
  have hl : lv_has ls 2 [(0, .ref (g.2.1 0)), (1, .int x1)] := hl
  unfold qf_Model_tapeWord at hF
  refine lv_aload_n hx hb qd_Model_tapeWord_0 rfl (lv_at hl 0 rfl) ?_
  refine xx_get C ki_Model hK hP 0 rfl rfl 16 (by decide) kw_889 rfl rfl qd_Model_tapeWord_1 ?_
  refine lv_iload_n hx hb qd_Model_tapeWord_4 rfl (lv_at hl 1 rfl) ?_
  obtain ⟨v1, ev1, hF⟩ := xx_ob hF
  refine xx_iald C hK hP 13 0 rfl rfl ev1 qd_Model_tapeWord_5 ?_
  refine lv_aload_n hx hb qd_Model_tapeWord_6 rfl (lv_at hl 0 rfl) ?_
  refine xx_get C ki_Model hK hP 0 rfl rfl 16 (by decide) kw_889 rfl rfl qd_Model_tapeWord_7 ?_
  refine lv_iload_n hx hb qd_Model_tapeWord_10 rfl (lv_at hl 1 rfl) ?_
  refine lv_iconst (v := (1 : Int32)) hx hb qd_Model_tapeWord_11 (by decide) ?_
  refine lv_iadd hx hb qd_Model_tapeWord_12 ?_
  obtain ⟨v2, ev2, hF⟩ := xx_ob hF
  refine xx_iald C hK hP 13 0 rfl rfl ev2 qd_Model_tapeWord_13 ?_
  refine lv_bipush (v := (8 : Int32)) hx hb qd_Model_tapeWord_14 (by decide) ?_
  refine lv_ishl hx hb qd_Model_tapeWord_16 ?_
  refine lv_ior hx hb qd_Model_tapeWord_17 ?_
  refine lv_aload_n hx hb qd_Model_tapeWord_18 rfl (lv_at hl 0 rfl) ?_
  refine xx_get C ki_Model hK hP 0 rfl rfl 16 (by decide) kw_889 rfl rfl qd_Model_tapeWord_19 ?_
  refine lv_iload_n hx hb qd_Model_tapeWord_22 rfl (lv_at hl 1 rfl) ?_
  refine lv_iconst (v := (2 : Int32)) hx hb qd_Model_tapeWord_23 (by decide) ?_
  refine lv_iadd hx hb qd_Model_tapeWord_24 ?_
  obtain ⟨v3, ev3, hF⟩ := xx_ob hF
  refine xx_iald C hK hP 13 0 rfl rfl ev3 qd_Model_tapeWord_25 ?_
  refine lv_bipush (v := (16 : Int32)) hx hb qd_Model_tapeWord_26 (by decide) ?_
  refine lv_ishl hx hb qd_Model_tapeWord_28 ?_
  refine lv_ior hx hb qd_Model_tapeWord_29 ?_
  refine lv_aload_n hx hb qd_Model_tapeWord_30 rfl (lv_at hl 0 rfl) ?_
  refine xx_get C ki_Model hK hP 0 rfl rfl 16 (by decide) kw_889 rfl rfl qd_Model_tapeWord_31 ?_
  refine lv_iload_n hx hb qd_Model_tapeWord_34 rfl (lv_at hl 1 rfl) ?_
  refine lv_iconst (v := (3 : Int32)) hx hb qd_Model_tapeWord_35 (by decide) ?_
  refine lv_iadd hx hb qd_Model_tapeWord_36 ?_
  obtain ⟨v4, ev4, hF⟩ := xx_ob hF
  refine xx_iald C hK hP 13 0 rfl rfl ev4 qd_Model_tapeWord_37 ?_
  refine lv_bipush (v := (24 : Int32)) hx hb qd_Model_tapeWord_38 (by decide) ?_
  refine lv_ishl hx hb qd_Model_tapeWord_40 ?_
  refine lv_ior hx hb qd_Model_tapeWord_41 ?_
  exact xx_iret C hF hK hP hD hS qd_Model_tapeWord_42
theorem qd_Model_isOffset_0 : decode kb_Model_isOffset 0 = .ok (.iload_n 0, 1) := by decide +kernel
theorem qd_Model_isOffset_1 : decode kb_Model_isOffset 1 = .ok (.ifCond .lt (18), 3) := by decide +kernel
theorem qd_Model_isOffset_4 : decode kb_Model_isOffset 4 = .ok (.iload_n 0, 1) := by decide +kernel
theorem qd_Model_isOffset_5 : decode kb_Model_isOffset 5 = .ok (.iload_n 1, 1) := by decide +kernel
theorem qd_Model_isOffset_6 : decode kb_Model_isOffset 6 = .ok (.if_icmp .ge (13), 3) := by decide +kernel
theorem qd_Model_isOffset_9 : decode kb_Model_isOffset 9 = .ok (.iload_n 0, 1) := by decide +kernel
theorem qd_Model_isOffset_10 : decode kb_Model_isOffset 10 = .ok (.iconst 4, 1) := by decide +kernel
theorem qd_Model_isOffset_11 : decode kb_Model_isOffset 11 = .ok (.irem, 1) := by decide +kernel
theorem qd_Model_isOffset_12 : decode kb_Model_isOffset 12 = .ok (.ifCond .ne (7), 3) := by decide +kernel
theorem qd_Model_isOffset_15 : decode kb_Model_isOffset 15 = .ok (.iconst 1, 1) := by decide +kernel
theorem qd_Model_isOffset_16 : decode kb_Model_isOffset 16 = .ok (.goto (4), 3) := by decide +kernel
theorem qd_Model_isOffset_19 : decode kb_Model_isOffset 19 = .ok (.iconst 0, 1) := by decide +kernel
theorem qd_Model_isOffset_20 : decode kb_Model_isOffset 20 = .ok (.ireturn, 1) := by decide +kernel
def qf_Model_isOffset_b20 (u : qm_S) (y0 : Int32) : Option (Int32 × qm_S) := some (vp_nar .boolean y0, u)
def qf_Model_isOffset_b19 (u : qm_S) : Option (Int32 × qm_S) := qf_Model_isOffset_b20 u (0 : Int32)
def qf_Model_isOffset (u : qm_S) (x0 : Int32) (x1 : Int32) : Option (Int32 × qm_S) := if x0 < 0 then (qf_Model_isOffset_b19 u) else (if x1 ≤ x0 then (qf_Model_isOffset_b19 u) else (if (x0 - x0 / (4 : Int32) * (4 : Int32)) = 0 then (qf_Model_isOffset_b20 u (1 : Int32)) else (qf_Model_isOffset_b19 u)))
set_option maxHeartbeats 4000000 in
set_option maxRecDepth 100000 in
theorem qw_Model_isOffset_b20 {p : Program} {l : Launch} {e : Env} {s : State} {m : MethodId} {args : Array Value} {below : List Frame} {meth : Method} {c : Code} {A : Nat → Prop} {g : xx_G} {r : Int32} {u9 : qm_S} (C : xx_C p s m args meth c kb_Model_isOffset 2 kr_Model (some .boolean)) (hA : ∀ q, s.heap.size ≤ q → A q) (hK : va_K g.1 xx_cls (qm_T g) s) : ∀ (u : qm_S) (y0 : Int32) (H : Heap) (locs : List Loc) (ls : Array Slot), qf_Model_isOffset_b20 u y0 = some (r, u9) → lv_has ls 2 [] → va_P g.1 xx_cls (qm_W g u) H → va_D A (qm_W g u) → va_S A s.heap H locs → W p l e (xx_rm 0 0) s m args below meth c H locs 0 0 (MQ below (xx_Q g.1 (qm_T g) (qm_W g) (some (.int r)) u9 A) args s 0 0 A) (F0 m 20 ls [.int y0]) := by
  have hx := C.1
  have hb := C.2.1
  have hown := C.2.2.2.1
  have hts := C.2.2.2.2.1
  intro u y0 H locs ls hF hl hP hD hS
  unfold qf_Model_isOffset_b20 at hF
  exact xx_zret C hF hK hP hD hS qd_Model_isOffset_20
set_option maxHeartbeats 4000000 in
set_option maxRecDepth 100000 in
theorem qw_Model_isOffset_b19 {p : Program} {l : Launch} {e : Env} {s : State} {m : MethodId} {args : Array Value} {below : List Frame} {meth : Method} {c : Code} {A : Nat → Prop} {g : xx_G} {r : Int32} {u9 : qm_S} (C : xx_C p s m args meth c kb_Model_isOffset 2 kr_Model (some .boolean)) (hA : ∀ q, s.heap.size ≤ q → A q) (hK : va_K g.1 xx_cls (qm_T g) s) : ∀ (u : qm_S) (H : Heap) (locs : List Loc) (ls : Array Slot), qf_Model_isOffset_b19 u = some (r, u9) → lv_has ls 2 [] → va_P g.1 xx_cls (qm_W g u) H → va_D A (qm_W g u) → va_S A s.heap H locs → W p l e (xx_rm 0 0) s m args below meth c H locs 0 0 (MQ below (xx_Q g.1 (qm_T g) (qm_W g) (some (.int r)) u9 A) args s 0 0 A) (F0 m 19 ls []) := by
  have hx := C.1
  have hb := C.2.1
  have hown := C.2.2.2.1
  have hts := C.2.2.2.2.1
  intro u H locs ls hF hl hP hD hS
  unfold qf_Model_isOffset_b19 at hF
  refine lv_iconst (v := (0 : Int32)) hx hb qd_Model_isOffset_19 (by decide) ?_
  exact qw_Model_isOffset_b20 C hA hK  u (0 : Int32) _ _ _ hF (lv_sub hl [] rfl) hP hD hS
set_option maxHeartbeats 4000000 in
set_option maxRecDepth 100000 in
theorem qc_Model_isOffset (l : Launch) (g : xx_G) (u : qm_S) (x0 : Int32) (x1 : Int32) (r : Int32) (u9 : qm_S) (hF : qf_Model_isOffset u x0 x1 = some (r, u9)) : xx_M l g.1 (qm_T g) (qm_W g) ky_Model_isOffset kb_Model_isOffset 2 (some .boolean) (xx_rm 0 0) [.int x0, .int x1] u (some (.int r)) u9 := by
  refine xx_body (by decide) (Nat.le_of_ble_eq_true rfl) ?_
  intro p e s m args below meth c A ls C hin hK hl hA hP hD hS
  have hx := C.1
  have hb := C.2.1
  have hown := C.2.2.2.1
  have hts := C.2.2.2.2.1
  have hl : lv_has ls 2 [(0, .int x0), (1, .int x1)] := hl
  unfold qf_Model_isOffset at hF
  refine lv_iload_n hx hb qd_Model_isOffset_0 rfl (lv_at hl 0 rfl) ?_
  refine lv_if_lt (tgt := 19) hx hb qd_Model_isOffset_1 (by decide) (fun hc => ?_) (fun hc => ?_)
  · have hF := xx_ip hc hF
    exact qw_Model_isOffset_b19 C hA hK  u _ _ _ hF (lv_sub hl [] rfl) hP hD hS
  · have hF := xx_in' hc hF
    refine lv_iload_n hx hb qd_Model_isOffset_4 rfl (lv_at hl 0 rfl) ?_
    refine lv_iload_n hx hb qd_Model_isOffset_5 rfl (lv_at hl 1 rfl) ?_
    refine lv_icmp_ge (tgt := 19) hx hb qd_Model_isOffset_6 (by decide) (fun hc => ?_) (fun hc => ?_)
    · have hF := xx_ip hc hF
      exact qw_Model_isOffset_b19 C hA hK  u _ _ _ hF (lv_sub hl [] rfl) hP hD hS
    · have hF := xx_in' hc hF
      refine lv_iload_n hx hb qd_Model_isOffset_9 rfl (lv_at hl 0 rfl) ?_
      refine lv_iconst (v := (4 : Int32)) hx hb qd_Model_isOffset_10 (by decide) ?_
      refine lv_irem hx hb qd_Model_isOffset_11 (by decide) ?_
      refine lv_if_ne (tgt := 19) hx hb qd_Model_isOffset_12 (by decide) (fun hc => ?_) (fun hc => ?_)
      · have hF := xx_in' hc hF
        exact qw_Model_isOffset_b19 C hA hK  u _ _ _ hF (lv_sub hl [] rfl) hP hD hS
      · have hF := xx_ip hc hF
        refine lv_iconst (v := (1 : Int32)) hx hb qd_Model_isOffset_15 (by decide) ?_
        refine lv_goto (tgt := 20) hx hb qd_Model_isOffset_16 (by decide) ?_
        exact qw_Model_isOffset_b20 C hA hK  u (1 : Int32) _ _ _ hF (lv_sub hl [] rfl) hP hD hS
theorem kw_899 : Cond.fieldLink "ModuleLoaderModel" 96 "ModuleLoaderModel" "length" "I" ∈ xx_tb := xx_in (List.mem_append_right _ (List.mem_of_getElem? (i := 899) (by decide +kernel))) (by decide +kernel)
theorem qd_Model_importAt_0 : decode kb_Model_importAt 0 = .ok (.bipush (32), 2) := by decide +kernel
theorem qd_Model_importAt_2 : decode kb_Model_importAt 2 = .ok (.aload_n 0, 1) := by decide +kernel
theorem qd_Model_importAt_3 : decode kb_Model_importAt 3 = .ok (.getfield 96, 3) := by decide +kernel
theorem qd_Model_importAt_6 : decode kb_Model_importAt 6 = .ok (.iadd, 1) := by decide +kernel
theorem qd_Model_importAt_7 : decode kb_Model_importAt 7 = .ok (.bipush (8), 2) := by decide +kernel
theorem qd_Model_importAt_9 : decode kb_Model_importAt 9 = .ok (.iload_n 1, 1) := by decide +kernel
theorem qd_Model_importAt_10 : decode kb_Model_importAt 10 = .ok (.imul, 1) := by decide +kernel
theorem qd_Model_importAt_11 : decode kb_Model_importAt 11 = .ok (.iadd, 1) := by decide +kernel
theorem qd_Model_importAt_12 : decode kb_Model_importAt 12 = .ok (.ireturn, 1) := by decide +kernel
def qf_Model_importAt (u : qm_S) (x1 : Int32) : Option (Int32 × qm_S) := some ((((32 : Int32) + (u.1 26)) + ((8 : Int32) * x1)), u)
set_option maxHeartbeats 4000000 in
set_option maxRecDepth 100000 in
theorem qc_Model_importAt (l : Launch) (g : xx_G) (u : qm_S) (x1 : Int32) (r : Int32) (u9 : qm_S) (hF : qf_Model_importAt u x1 = some (r, u9)) : xx_M l g.1 (qm_T g) (qm_W g) ky_Model_importAt kb_Model_importAt 2 (some .int) (xx_rm 0 0) [.ref (g.2.1 0), .int x1] u (some (.int r)) u9 := by
  refine xx_body (by decide) (Nat.le_of_ble_eq_true rfl) ?_
  intro p e s m args below meth c A ls C hin hK hl hA hP hD hS
  have hx := C.1
  have hb := C.2.1
  have hown := C.2.2.2.1
  have hts := C.2.2.2.2.1
  have hl : lv_has ls 2 [(0, .ref (g.2.1 0)), (1, .int x1)] := hl
  unfold qf_Model_importAt at hF
  refine lv_bipush (v := (32 : Int32)) hx hb qd_Model_importAt_0 (by decide) ?_
  refine lv_aload_n hx hb qd_Model_importAt_2 rfl (lv_at hl 0 rfl) ?_
  refine xx_get C ki_Model hK hP 0 rfl rfl 26 (by decide) kw_899 rfl rfl qd_Model_importAt_3 ?_
  refine lv_iadd hx hb qd_Model_importAt_6 ?_
  refine lv_bipush (v := (8 : Int32)) hx hb qd_Model_importAt_7 (by decide) ?_
  refine lv_iload_n hx hb qd_Model_importAt_9 rfl (lv_at hl 1 rfl) ?_
  refine lv_imul hx hb qd_Model_importAt_10 ?_
  refine lv_iadd hx hb qd_Model_importAt_11 ?_
  exact xx_iret C hF hK hP hD hS qd_Model_importAt_12
theorem kw_884 : Cond.fieldLink "ModuleLoaderModel" 35 "ModuleLoaderModel" "size" "[I" ∈ xx_tb := xx_in (List.mem_append_right _ (List.mem_of_getElem? (i := 884) (by decide +kernel))) (by decide +kernel)
theorem qd_Model_isRowFree_0 : decode kb_Model_isRowFree 0 = .ok (.iconst 1, 1) := by decide +kernel
theorem qd_Model_isRowFree_1 : decode kb_Model_isRowFree 1 = .ok (.istore_n 2, 1) := by decide +kernel
theorem qd_Model_isRowFree_2 : decode kb_Model_isRowFree 2 = .ok (.iconst 0, 1) := by decide +kernel
theorem qd_Model_isRowFree_3 : decode kb_Model_isRowFree 3 = .ok (.istore_n 3, 1) := by decide +kernel
theorem qd_Model_isRowFree_4 : decode kb_Model_isRowFree 4 = .ok (.iload_n 3, 1) := by decide +kernel
theorem qd_Model_isRowFree_5 : decode kb_Model_isRowFree 5 = .ok (.bipush (12), 2) := by decide +kernel
theorem qd_Model_isRowFree_7 : decode kb_Model_isRowFree 7 = .ok (.if_icmp .ge (75), 3) := by decide +kernel
theorem qd_Model_isRowFree_10 : decode kb_Model_isRowFree 10 = .ok (.iload_n 2, 1) := by decide +kernel
theorem qd_Model_isRowFree_11 : decode kb_Model_isRowFree 11 = .ok (.ifCond .eq (63), 3) := by decide +kernel
theorem qd_Model_isRowFree_14 : decode kb_Model_isRowFree 14 = .ok (.aload_n 0, 1) := by decide +kernel
theorem qd_Model_isRowFree_15 : decode kb_Model_isRowFree 15 = .ok (.getfield 25, 3) := by decide +kernel
theorem qd_Model_isRowFree_18 : decode kb_Model_isRowFree 18 = .ok (.iload_n 3, 1) := by decide +kernel
theorem qd_Model_isRowFree_19 : decode kb_Model_isRowFree 19 = .ok (.baload, 1) := by decide +kernel
theorem qd_Model_isRowFree_20 : decode kb_Model_isRowFree 20 = .ok (.ifCond .eq (50), 3) := by decide +kernel
theorem qd_Model_isRowFree_23 : decode kb_Model_isRowFree 23 = .ok (.iload_n 1, 1) := by decide +kernel
theorem qd_Model_isRowFree_24 : decode kb_Model_isRowFree 24 = .ok (.aload_n 0, 1) := by decide +kernel
theorem qd_Model_isRowFree_25 : decode kb_Model_isRowFree 25 = .ok (.getfield 32, 3) := by decide +kernel
theorem qd_Model_isRowFree_28 : decode kb_Model_isRowFree 28 = .ok (.iload_n 3, 1) := by decide +kernel
theorem qd_Model_isRowFree_29 : decode kb_Model_isRowFree 29 = .ok (.iaload, 1) := by decide +kernel
theorem qd_Model_isRowFree_30 : decode kb_Model_isRowFree 30 = .ok (.sipush (512), 3) := by decide +kernel
theorem qd_Model_isRowFree_33 : decode kb_Model_isRowFree 33 = .ok (.isub, 1) := by decide +kernel
theorem qd_Model_isRowFree_34 : decode kb_Model_isRowFree 34 = .ok (.bipush (16), 2) := by decide +kernel
theorem qd_Model_isRowFree_36 : decode kb_Model_isRowFree 36 = .ok (.idiv, 1) := by decide +kernel
theorem qd_Model_isRowFree_37 : decode kb_Model_isRowFree 37 = .ok (.if_icmp .lt (33), 3) := by decide +kernel
theorem qd_Model_isRowFree_40 : decode kb_Model_isRowFree 40 = .ok (.iload_n 1, 1) := by decide +kernel
theorem qd_Model_isRowFree_41 : decode kb_Model_isRowFree 41 = .ok (.aload_n 0, 1) := by decide +kernel
theorem qd_Model_isRowFree_42 : decode kb_Model_isRowFree 42 = .ok (.getfield 32, 3) := by decide +kernel
theorem qd_Model_isRowFree_45 : decode kb_Model_isRowFree 45 = .ok (.iload_n 3, 1) := by decide +kernel
theorem qd_Model_isRowFree_46 : decode kb_Model_isRowFree 46 = .ok (.iaload, 1) := by decide +kernel
theorem qd_Model_isRowFree_47 : decode kb_Model_isRowFree 47 = .ok (.sipush (512), 3) := by decide +kernel
theorem qd_Model_isRowFree_50 : decode kb_Model_isRowFree 50 = .ok (.isub, 1) := by decide +kernel
theorem qd_Model_isRowFree_51 : decode kb_Model_isRowFree 51 = .ok (.bipush (16), 2) := by decide +kernel
theorem qd_Model_isRowFree_53 : decode kb_Model_isRowFree 53 = .ok (.idiv, 1) := by decide +kernel
theorem qd_Model_isRowFree_54 : decode kb_Model_isRowFree 54 = .ok (.aload_n 0, 1) := by decide +kernel
theorem qd_Model_isRowFree_55 : decode kb_Model_isRowFree 55 = .ok (.getfield 35, 3) := by decide +kernel
theorem qd_Model_isRowFree_58 : decode kb_Model_isRowFree 58 = .ok (.iload_n 3, 1) := by decide +kernel
theorem qd_Model_isRowFree_59 : decode kb_Model_isRowFree 59 = .ok (.iaload, 1) := by decide +kernel
theorem qd_Model_isRowFree_60 : decode kb_Model_isRowFree 60 = .ok (.bipush (15), 2) := by decide +kernel
theorem qd_Model_isRowFree_62 : decode kb_Model_isRowFree 62 = .ok (.iadd, 1) := by decide +kernel
theorem qd_Model_isRowFree_63 : decode kb_Model_isRowFree 63 = .ok (.bipush (16), 2) := by decide +kernel
theorem qd_Model_isRowFree_65 : decode kb_Model_isRowFree 65 = .ok (.idiv, 1) := by decide +kernel
theorem qd_Model_isRowFree_66 : decode kb_Model_isRowFree 66 = .ok (.iadd, 1) := by decide +kernel
theorem qd_Model_isRowFree_67 : decode kb_Model_isRowFree 67 = .ok (.if_icmp .lt (7), 3) := by decide +kernel
theorem qd_Model_isRowFree_70 : decode kb_Model_isRowFree 70 = .ok (.iconst 1, 1) := by decide +kernel
theorem qd_Model_isRowFree_71 : decode kb_Model_isRowFree 71 = .ok (.goto (4), 3) := by decide +kernel
theorem qd_Model_isRowFree_74 : decode kb_Model_isRowFree 74 = .ok (.iconst 0, 1) := by decide +kernel
theorem qd_Model_isRowFree_75 : decode kb_Model_isRowFree 75 = .ok (.istore_n 2, 1) := by decide +kernel
theorem qd_Model_isRowFree_76 : decode kb_Model_isRowFree 76 = .ok (.iinc 3 (1), 3) := by decide +kernel
theorem qd_Model_isRowFree_79 : decode kb_Model_isRowFree 79 = .ok (.goto (-75), 3) := by decide +kernel
theorem qd_Model_isRowFree_82 : decode kb_Model_isRowFree 82 = .ok (.iload_n 2, 1) := by decide +kernel
theorem qd_Model_isRowFree_83 : decode kb_Model_isRowFree 83 = .ok (.ireturn, 1) := by decide +kernel
def qf_Model_isRowFree_b75 (rec4 : qm_S → Int32 → Int32 → Int32 → Option (Int32 × qm_S)) (u : qm_S) (x1 : Int32) (x3 : Int32) (y0 : Int32) : Option (Int32 × qm_S) := xx_nm (x3 + (1 : Int32)) fun v1 => rec4 u x1 y0 v1
def qf_Model_isRowFree_b70 (rec4 : qm_S → Int32 → Int32 → Int32 → Option (Int32 × qm_S)) (u : qm_S) (x1 : Int32) (x3 : Int32) : Option (Int32 × qm_S) := qf_Model_isRowFree_b75 rec4 u x1 x3 (1 : Int32)
def qf_Model_isRowFree_b74 (rec4 : qm_S → Int32 → Int32 → Int32 → Option (Int32 × qm_S)) (u : qm_S) (x1 : Int32) (x3 : Int32) : Option (Int32 × qm_S) := qf_Model_isRowFree_b75 rec4 u x1 x3 (0 : Int32)
def qf_Model_isRowFree_b4 : Nat → qm_S → Int32 → Int32 → Int32 → Option (Int32 × qm_S)
  | 0, _, _, _, _ => none
  | n + 1, u, x1, x2, x3 => if (12 : Int32) ≤ x3 then (some (vp_nar .boolean x2, u)) else (if x2 = 0 then (qf_Model_isRowFree_b74 (qf_Model_isRowFree_b4 n) u x1 x3) else ((xx_ag (u.2 6) 12 x3).bind fun v1 => if v1 = 0 then (qf_Model_isRowFree_b70 (qf_Model_isRowFree_b4 n) u x1 x3) else ((xx_ag (u.2 8) 12 x3).bind fun v2 => if x1 < ((v2 - (512 : Int32)) / (16 : Int32)) then (qf_Model_isRowFree_b70 (qf_Model_isRowFree_b4 n) u x1 x3) else ((xx_ag (u.2 8) 12 x3).bind fun v3 => (xx_ag (u.2 9) 12 x3).bind fun v4 => if x1 < (((v3 - (512 : Int32)) / (16 : Int32)) + ((v4 + (15 : Int32)) / (16 : Int32))) then (qf_Model_isRowFree_b74 (qf_Model_isRowFree_b4 n) u x1 x3) else (qf_Model_isRowFree_b70 (qf_Model_isRowFree_b4 n) u x1 x3)))))
def qf_Model_isRowFree (u : qm_S) (x1 : Int32) : Option (Int32 × qm_S) := xx_nm (1 : Int32) fun v1 => xx_nm (0 : Int32) fun v2 => qf_Model_isRowFree_b4 xx_fu u x1 v1 v2
set_option maxHeartbeats 4000000 in
set_option maxRecDepth 100000 in
theorem qw_Model_isRowFree_b75 {p : Program} {l : Launch} {e : Env} {s : State} {m : MethodId} {args : Array Value} {below : List Frame} {meth : Method} {c : Code} {A : Nat → Prop} {g : xx_G} {r : Int32} {u9 : qm_S} (C : xx_C p s m args meth c kb_Model_isRowFree 4 kr_Model (some .boolean)) (hA : ∀ q, s.heap.size ≤ q → A q) (hK : va_K g.1 xx_cls (qm_T g) s) {rec4 : qm_S → Int32 → Int32 → Int32 → Option (Int32 × qm_S)} (hrec4 : ∀ (u : qm_S) (x1 : Int32) (x2 : Int32) (x3 : Int32) (H : Heap) (locs : List Loc) (ls : Array Slot), rec4 u x1 x2 x3 = some (r, u9) → lv_has ls 4 [(0, .ref (g.2.1 0)), (1, .int x1), (2, .int x2), (3, .int x3)] → va_P g.1 xx_cls (qm_W g u) H → va_D A (qm_W g u) → va_S A s.heap H locs → W p l e (xx_rm 0 0) s m args below meth c H locs 0 0 (MQ below (xx_Q g.1 (qm_T g) (qm_W g) (some (.int r)) u9 A) args s 0 0 A) (F0 m 4 ls [])) : ∀ (u : qm_S) (x1 : Int32) (x3 : Int32) (y0 : Int32) (H : Heap) (locs : List Loc) (ls : Array Slot), qf_Model_isRowFree_b75 rec4 u x1 x3 y0 = some (r, u9) → lv_has ls 4 [(0, .ref (g.2.1 0)), (1, .int x1), (3, .int x3)] → va_P g.1 xx_cls (qm_W g u) H → va_D A (qm_W g u) → va_S A s.heap H locs → W p l e (xx_rm 0 0) s m args below meth c H locs 0 0 (MQ below (xx_Q g.1 (qm_T g) (qm_W g) (some (.int r)) u9 A) args s 0 0 A) (F0 m 75 ls [.int y0]) := by
  have hx := C.1
  have hb := C.2.1
  have hown := C.2.2.2.1
  have hts := C.2.2.2.2.1
  intro u x1 x3 y0 H locs ls hF hl hP hD hS
  unfold qf_Model_isRowFree_b75 at hF
  refine lv_istore_n hx hb qd_Model_isRowFree_75 rfl hl (by decide) rfl (fun ls hl => ?_)
  obtain ⟨v1, ev1, hF⟩ := xx_nm_some hF
  refine lv_iinc (k := 3) (v := v1) hx hb qd_Model_isRowFree_76 hl rfl (by rw [ev1, xx_lit1]) (by decide) rfl (fun ls hl => ?_)
  refine lv_goto (tgt := 4) hx hb qd_Model_isRowFree_79 (by decide) ?_
  exact hrec4 u x1 y0 v1 _ _ _ hF (lv_sub hl [2, 3, 1, 0] rfl) hP hD hS
set_option maxHeartbeats 4000000 in
set_option maxRecDepth 100000 in
theorem qw_Model_isRowFree_b70 {p : Program} {l : Launch} {e : Env} {s : State} {m : MethodId} {args : Array Value} {below : List Frame} {meth : Method} {c : Code} {A : Nat → Prop} {g : xx_G} {r : Int32} {u9 : qm_S} (C : xx_C p s m args meth c kb_Model_isRowFree 4 kr_Model (some .boolean)) (hA : ∀ q, s.heap.size ≤ q → A q) (hK : va_K g.1 xx_cls (qm_T g) s) {rec4 : qm_S → Int32 → Int32 → Int32 → Option (Int32 × qm_S)} (hrec4 : ∀ (u : qm_S) (x1 : Int32) (x2 : Int32) (x3 : Int32) (H : Heap) (locs : List Loc) (ls : Array Slot), rec4 u x1 x2 x3 = some (r, u9) → lv_has ls 4 [(0, .ref (g.2.1 0)), (1, .int x1), (2, .int x2), (3, .int x3)] → va_P g.1 xx_cls (qm_W g u) H → va_D A (qm_W g u) → va_S A s.heap H locs → W p l e (xx_rm 0 0) s m args below meth c H locs 0 0 (MQ below (xx_Q g.1 (qm_T g) (qm_W g) (some (.int r)) u9 A) args s 0 0 A) (F0 m 4 ls [])) : ∀ (u : qm_S) (x1 : Int32) (x3 : Int32) (H : Heap) (locs : List Loc) (ls : Array Slot), qf_Model_isRowFree_b70 rec4 u x1 x3 = some (r, u9) → lv_has ls 4 [(0, .ref (g.2.1 0)), (1, .int x1), (3, .int x3)] → va_P g.1 xx_cls (qm_W g u) H → va_D A (qm_W g u) → va_S A s.heap H locs → W p l e (xx_rm 0 0) s m args below meth c H locs 0 0 (MQ below (xx_Q g.1 (qm_T g) (qm_W g) (some (.int r)) u9 A) args s 0 0 A) (F0 m 70 ls []) := by
  have hx := C.1
  have hb := C.2.1
  have hown := C.2.2.2.1
  have hts := C.2.2.2.2.1
  intro u x1 x3 H locs ls hF hl hP hD hS
  unfold qf_Model_isRowFree_b70 at hF
  refine lv_iconst (v := (1 : Int32)) hx hb qd_Model_isRowFree_70 (by decide) ?_
  refine lv_goto (tgt := 75) hx hb qd_Model_isRowFree_71 (by decide) ?_
  exact qw_Model_isRowFree_b75 C hA hK hrec4  u x1 x3 (1 : Int32) _ _ _ hF (lv_sub hl [0, 1, 2] rfl) hP hD hS
set_option maxHeartbeats 4000000 in
set_option maxRecDepth 100000 in
theorem qw_Model_isRowFree_b74 {p : Program} {l : Launch} {e : Env} {s : State} {m : MethodId} {args : Array Value} {below : List Frame} {meth : Method} {c : Code} {A : Nat → Prop} {g : xx_G} {r : Int32} {u9 : qm_S} (C : xx_C p s m args meth c kb_Model_isRowFree 4 kr_Model (some .boolean)) (hA : ∀ q, s.heap.size ≤ q → A q) (hK : va_K g.1 xx_cls (qm_T g) s) {rec4 : qm_S → Int32 → Int32 → Int32 → Option (Int32 × qm_S)} (hrec4 : ∀ (u : qm_S) (x1 : Int32) (x2 : Int32) (x3 : Int32) (H : Heap) (locs : List Loc) (ls : Array Slot), rec4 u x1 x2 x3 = some (r, u9) → lv_has ls 4 [(0, .ref (g.2.1 0)), (1, .int x1), (2, .int x2), (3, .int x3)] → va_P g.1 xx_cls (qm_W g u) H → va_D A (qm_W g u) → va_S A s.heap H locs → W p l e (xx_rm 0 0) s m args below meth c H locs 0 0 (MQ below (xx_Q g.1 (qm_T g) (qm_W g) (some (.int r)) u9 A) args s 0 0 A) (F0 m 4 ls [])) : ∀ (u : qm_S) (x1 : Int32) (x3 : Int32) (H : Heap) (locs : List Loc) (ls : Array Slot), qf_Model_isRowFree_b74 rec4 u x1 x3 = some (r, u9) → lv_has ls 4 [(0, .ref (g.2.1 0)), (1, .int x1), (3, .int x3)] → va_P g.1 xx_cls (qm_W g u) H → va_D A (qm_W g u) → va_S A s.heap H locs → W p l e (xx_rm 0 0) s m args below meth c H locs 0 0 (MQ below (xx_Q g.1 (qm_T g) (qm_W g) (some (.int r)) u9 A) args s 0 0 A) (F0 m 74 ls []) := by
  have hx := C.1
  have hb := C.2.1
  have hown := C.2.2.2.1
  have hts := C.2.2.2.2.1
  intro u x1 x3 H locs ls hF hl hP hD hS
  unfold qf_Model_isRowFree_b74 at hF
  refine lv_iconst (v := (0 : Int32)) hx hb qd_Model_isRowFree_74 (by decide) ?_
  exact qw_Model_isRowFree_b75 C hA hK hrec4  u x1 x3 (0 : Int32) _ _ _ hF (lv_sub hl [0, 1, 2] rfl) hP hD hS
set_option maxHeartbeats 4000000 in
set_option maxRecDepth 100000 in
theorem qw_Model_isRowFree_b4 {p : Program} {l : Launch} {e : Env} {s : State} {m : MethodId} {args : Array Value} {below : List Frame} {meth : Method} {c : Code} {A : Nat → Prop} {g : xx_G} {r : Int32} {u9 : qm_S} (C : xx_C p s m args meth c kb_Model_isRowFree 4 kr_Model (some .boolean)) (hA : ∀ q, s.heap.size ≤ q → A q) (hK : va_K g.1 xx_cls (qm_T g) s) : ∀ (n : Nat), ∀ (u : qm_S) (x1 : Int32) (x2 : Int32) (x3 : Int32) (H : Heap) (locs : List Loc) (ls : Array Slot), qf_Model_isRowFree_b4 n u x1 x2 x3 = some (r, u9) → lv_has ls 4 [(0, .ref (g.2.1 0)), (1, .int x1), (2, .int x2), (3, .int x3)] → va_P g.1 xx_cls (qm_W g u) H → va_D A (qm_W g u) → va_S A s.heap H locs → W p l e (xx_rm 0 0) s m args below meth c H locs 0 0 (MQ below (xx_Q g.1 (qm_T g) (qm_W g) (some (.int r)) u9 A) args s 0 0 A) (F0 m 4 ls []) := by
  have hx := C.1
  have hb := C.2.1
  have hown := C.2.2.2.1
  have hts := C.2.2.2.2.1
  intro n
  induction n with
  | zero =>
    intro u x1 x2 x3 H locs ls hF
    rw [qf_Model_isRowFree_b4] at hF
    cases hF
  | succ n ih =>
    intro u x1 x2 x3 H locs ls hF hl hP hD hS
    rw [qf_Model_isRowFree_b4] at hF
    refine lv_iload_n hx hb qd_Model_isRowFree_4 rfl (lv_at hl 3 rfl) ?_
    refine lv_bipush (v := (12 : Int32)) hx hb qd_Model_isRowFree_5 (by decide) ?_
    refine lv_icmp_ge (tgt := 82) hx hb qd_Model_isRowFree_7 (by decide) (fun hc => ?_) (fun hc => ?_)
    · have hF := xx_ip hc hF
      refine lv_iload_n hx hb qd_Model_isRowFree_82 rfl (lv_at hl 2 rfl) ?_
      exact xx_zret C hF hK hP hD hS qd_Model_isRowFree_83
    · have hF := xx_in' hc hF
      refine lv_iload_n hx hb qd_Model_isRowFree_10 rfl (lv_at hl 2 rfl) ?_
      refine lv_if_eq (tgt := 74) hx hb qd_Model_isRowFree_11 (by decide) (fun hc => ?_) (fun hc => ?_)
      · have hF := xx_ip hc hF
        exact qw_Model_isRowFree_b74 C hA hK ih  u x1 x3 _ _ _ hF (lv_sub hl [0, 1, 3] rfl) hP hD hS
      · have hF := xx_in' hc hF
        refine lv_aload_n hx hb qd_Model_isRowFree_14 rfl (lv_at hl 0 rfl) ?_
        refine xx_get C ki_Model hK hP 0 rfl rfl 8 (by decide) kw_881 rfl rfl qd_Model_isRowFree_15 ?_
        refine lv_iload_n hx hb qd_Model_isRowFree_18 rfl (lv_at hl 3 rfl) ?_
        obtain ⟨v1, ev1, hF⟩ := xx_ob hF
        refine xx_zald C hK hP 6 1 rfl rfl ev1 qd_Model_isRowFree_19 ?_
        refine lv_if_eq (tgt := 70) hx hb qd_Model_isRowFree_20 (by decide) (fun hc => ?_) (fun hc => ?_)
        · have hF := xx_ip hc hF
          exact qw_Model_isRowFree_b70 C hA hK ih  u x1 x3 _ _ _ hF (lv_sub hl [0, 1, 3] rfl) hP hD hS
        · have hF := xx_in' hc hF
          refine lv_iload_n hx hb qd_Model_isRowFree_23 rfl (lv_at hl 1 rfl) ?_
          refine lv_aload_n hx hb qd_Model_isRowFree_24 rfl (lv_at hl 0 rfl) ?_
          refine xx_get C ki_Model hK hP 0 rfl rfl 10 (by decide) kw_883 rfl rfl qd_Model_isRowFree_25 ?_
          refine lv_iload_n hx hb qd_Model_isRowFree_28 rfl (lv_at hl 3 rfl) ?_
          obtain ⟨v2, ev2, hF⟩ := xx_ob hF
          refine xx_iald C hK hP 8 0 rfl rfl ev2 qd_Model_isRowFree_29 ?_
          refine lv_sipush (v := (512 : Int32)) hx hb qd_Model_isRowFree_30 (by decide) ?_
          refine lv_isub hx hb qd_Model_isRowFree_33 ?_
          refine lv_bipush (v := (16 : Int32)) hx hb qd_Model_isRowFree_34 (by decide) ?_
          refine lv_idiv hx hb qd_Model_isRowFree_36 (by decide) ?_
          refine lv_icmp_lt (tgt := 70) hx hb qd_Model_isRowFree_37 (by decide) (fun hc => ?_) (fun hc => ?_)
          · have hF := xx_ip hc hF
            exact qw_Model_isRowFree_b70 C hA hK ih  u x1 x3 _ _ _ hF (lv_sub hl [0, 1, 3] rfl) hP hD hS
          · have hF := xx_in' hc hF
            refine lv_iload_n hx hb qd_Model_isRowFree_40 rfl (lv_at hl 1 rfl) ?_
            refine lv_aload_n hx hb qd_Model_isRowFree_41 rfl (lv_at hl 0 rfl) ?_
            refine xx_get C ki_Model hK hP 0 rfl rfl 10 (by decide) kw_883 rfl rfl qd_Model_isRowFree_42 ?_
            refine lv_iload_n hx hb qd_Model_isRowFree_45 rfl (lv_at hl 3 rfl) ?_
            obtain ⟨v3, ev3, hF⟩ := xx_ob hF
            refine xx_iald C hK hP 8 0 rfl rfl ev3 qd_Model_isRowFree_46 ?_
            refine lv_sipush (v := (512 : Int32)) hx hb qd_Model_isRowFree_47 (by decide) ?_
            refine lv_isub hx hb qd_Model_isRowFree_50 ?_
            refine lv_bipush (v := (16 : Int32)) hx hb qd_Model_isRowFree_51 (by decide) ?_
            refine lv_idiv hx hb qd_Model_isRowFree_53 (by decide) ?_
            refine lv_aload_n hx hb qd_Model_isRowFree_54 rfl (lv_at hl 0 rfl) ?_
            refine xx_get C ki_Model hK hP 0 rfl rfl 11 (by decide) kw_884 rfl rfl qd_Model_isRowFree_55 ?_
            refine lv_iload_n hx hb qd_Model_isRowFree_58 rfl (lv_at hl 3 rfl) ?_
            obtain ⟨v4, ev4, hF⟩ := xx_ob hF
            refine xx_iald C hK hP 9 0 rfl rfl ev4 qd_Model_isRowFree_59 ?_
            refine lv_bipush (v := (15 : Int32)) hx hb qd_Model_isRowFree_60 (by decide) ?_
            refine lv_iadd hx hb qd_Model_isRowFree_62 ?_
            refine lv_bipush (v := (16 : Int32)) hx hb qd_Model_isRowFree_63 (by decide) ?_
            refine lv_idiv hx hb qd_Model_isRowFree_65 (by decide) ?_
            refine lv_iadd hx hb qd_Model_isRowFree_66 ?_
            refine lv_icmp_lt (tgt := 74) hx hb qd_Model_isRowFree_67 (by decide) (fun hc => ?_) (fun hc => ?_)
            · have hF := xx_ip hc hF
              exact qw_Model_isRowFree_b74 C hA hK ih  u x1 x3 _ _ _ hF (lv_sub hl [0, 1, 3] rfl) hP hD hS
            · have hF := xx_in' hc hF
              exact qw_Model_isRowFree_b70 C hA hK ih  u x1 x3 _ _ _ hF (lv_sub hl [0, 1, 3] rfl) hP hD hS
set_option maxHeartbeats 4000000 in
set_option maxRecDepth 100000 in
theorem qc_Model_isRowFree (l : Launch) (g : xx_G) (u : qm_S) (x1 : Int32) (r : Int32) (u9 : qm_S) (hF : qf_Model_isRowFree u x1 = some (r, u9)) : xx_M l g.1 (qm_T g) (qm_W g) ky_Model_isRowFree kb_Model_isRowFree 4 (some .boolean) (xx_rm 0 0) [.ref (g.2.1 0), .int x1] u (some (.int r)) u9 := by
  refine xx_body (by decide) (Nat.le_of_ble_eq_true rfl) ?_
  intro p e s m args below meth c A ls C hin hK hl hA hP hD hS
  have hx := C.1
  have hb := C.2.1
  have hown := C.2.2.2.1
  have hts := C.2.2.2.2.1
  have hl : lv_has ls 4 [(0, .ref (g.2.1 0)), (1, .int x1)] := hl
  unfold qf_Model_isRowFree at hF
  refine lv_iconst (v := (1 : Int32)) hx hb qd_Model_isRowFree_0 (by decide) ?_
  obtain ⟨v1, ev1, hF⟩ := xx_nm_some hF
  refine xx_topi ev1 ?_
  refine lv_istore_n hx hb qd_Model_isRowFree_1 rfl hl (by decide) rfl (fun ls hl => ?_)
  refine lv_iconst (v := (0 : Int32)) hx hb qd_Model_isRowFree_2 (by decide) ?_
  obtain ⟨v2, ev2, hF⟩ := xx_nm_some hF
  refine xx_topi ev2 ?_
  refine lv_istore_n hx hb qd_Model_isRowFree_3 rfl hl (by decide) rfl (fun ls hl => ?_)
  exact qw_Model_isRowFree_b4 C hA hK xx_fu u x1 v1 v2 _ _ _ hF (lv_sub hl [2, 3, 1, 0] rfl) hP hD hS
