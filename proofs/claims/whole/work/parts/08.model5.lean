theorem qd_Model_store_0 : decode kb_Model_store 0 = .ok (.iload_n 1, 1) := by decide +kernel
theorem qd_Model_store_1 : decode kb_Model_store 1 = .ok (.iconst 2, 1) := by decide +kernel
theorem qd_Model_store_2 : decode kb_Model_store 2 = .ok (.if_icmp .le (5), 3) := by decide +kernel
theorem qd_Model_store_5 : decode kb_Model_store 5 = .ok (.iconst 3, 1) := by decide +kernel
theorem qd_Model_store_6 : decode kb_Model_store 6 = .ok (.ireturn, 1) := by decide +kernel
theorem qd_Model_store_7 : decode kb_Model_store 7 = .ok (.iconst 1, 1) := by decide +kernel
theorem qd_Model_store_8 : decode kb_Model_store 8 = .ok (.iload_n 1, 1) := by decide +kernel
theorem qd_Model_store_9 : decode kb_Model_store 9 = .ok (.ishl, 1) := by decide +kernel
theorem qd_Model_store_10 : decode kb_Model_store 10 = .ok (.istore 4, 2) := by decide +kernel
theorem qd_Model_store_12 : decode kb_Model_store 12 = .ok (.iload_n 2, 1) := by decide +kernel
theorem qd_Model_store_13 : decode kb_Model_store 13 = .ok (.iload 4, 2) := by decide +kernel
theorem qd_Model_store_15 : decode kb_Model_store 15 = .ok (.invokestatic 220, 3) := by decide +kernel
theorem qd_Model_store_18 : decode kb_Model_store 18 = .ok (.istore 5, 2) := by decide +kernel
theorem qd_Model_store_20 : decode kb_Model_store 20 = .ok (.iload 5, 2) := by decide +kernel
theorem qd_Model_store_22 : decode kb_Model_store 22 = .ok (.ifCond .le (6), 3) := by decide +kernel
theorem qd_Model_store_25 : decode kb_Model_store 25 = .ok (.iload 5, 2) := by decide +kernel
theorem qd_Model_store_27 : decode kb_Model_store 27 = .ok (.ireturn, 1) := by decide +kernel
theorem qd_Model_store_28 : decode kb_Model_store 28 = .ok (.iconst 0, 1) := by decide +kernel
theorem qd_Model_store_29 : decode kb_Model_store 29 = .ok (.istore 6, 2) := by decide +kernel
theorem qd_Model_store_31 : decode kb_Model_store 31 = .ok (.iload 6, 2) := by decide +kernel
theorem qd_Model_store_33 : decode kb_Model_store 33 = .ok (.iload 4, 2) := by decide +kernel
theorem qd_Model_store_35 : decode kb_Model_store 35 = .ok (.if_icmp .ge (23), 3) := by decide +kernel
theorem qd_Model_store_38 : decode kb_Model_store 38 = .ok (.aload_n 0, 1) := by decide +kernel
theorem qd_Model_store_39 : decode kb_Model_store 39 = .ok (.iload_n 2, 1) := by decide +kernel
theorem qd_Model_store_40 : decode kb_Model_store 40 = .ok (.iload 6, 2) := by decide +kernel
theorem qd_Model_store_42 : decode kb_Model_store 42 = .ok (.iadd, 1) := by decide +kernel
theorem qd_Model_store_43 : decode kb_Model_store 43 = .ok (.invokevirtual 64, 3) := by decide +kernel
theorem qd_Model_store_46 : decode kb_Model_store 46 = .ok (.ifCond .eq (6), 3) := by decide +kernel
theorem qd_Model_store_49 : decode kb_Model_store 49 = .ok (.bipush (6), 2) := by decide +kernel
theorem qd_Model_store_51 : decode kb_Model_store 51 = .ok (.ireturn, 1) := by decide +kernel
theorem qd_Model_store_52 : decode kb_Model_store 52 = .ok (.iinc 6 (1), 3) := by decide +kernel
theorem qd_Model_store_55 : decode kb_Model_store 55 = .ok (.goto (-24), 3) := by decide +kernel
theorem qd_Model_store_58 : decode kb_Model_store 58 = .ok (.aload_n 0, 1) := by decide +kernel
theorem qd_Model_store_59 : decode kb_Model_store 59 = .ok (.iload_n 2, 1) := by decide +kernel
theorem qd_Model_store_60 : decode kb_Model_store 60 = .ok (.iload_n 3, 1) := by decide +kernel
theorem qd_Model_store_61 : decode kb_Model_store 61 = .ok (.iload 4, 2) := by decide +kernel
theorem qd_Model_store_63 : decode kb_Model_store 63 = .ok (.invokevirtual 72, 3) := by decide +kernel
theorem qd_Model_store_66 : decode kb_Model_store 66 = .ok (.iconst 0, 1) := by decide +kernel
theorem qd_Model_store_67 : decode kb_Model_store 67 = .ok (.ireturn, 1) := by decide +kernel
def qf_Model_store_b31 : Nat → qm_S → Int32 → Int32 → Int32 → Int32 → Option (Int32 × qm_S)
  | 0, _, _, _, _, _ => none
  | n + 1, u, x2, x3, x4, x6 => if x4 ≤ x6 then ((qf_Model_put u x2 x3 x4).bind fun u1 => some ((0 : Int32), u1)) else (xx_b2 (qf_Model_guarded u (x2 + x6)) fun v3 u2 => if v3 = 0 then (xx_nm (x6 + (1 : Int32)) fun v4 => (qf_Model_store_b31 n) u2 x2 x3 x4 v4) else (some ((6 : Int32), u2)))
def qf_Model_store (u : qm_S) (x1 : Int32) (x2 : Int32) (x3 : Int32) : Option (Int32 × qm_S) := if x1 ≤ (2 : Int32) then (xx_nm ((1 : Int32) <<< (x1 &&& 31)) fun v1 => xx_b2 (qf_Model_access u x2 v1) fun v3 u2 => if v3 ≤ 0 then (xx_nm (0 : Int32) fun v4 => qf_Model_store_b31 xx_fu u2 x2 x3 v1 v4) else (some (v3, u2))) else (some ((3 : Int32), u))
set_option maxHeartbeats 4000000 in
set_option maxRecDepth 100000 in
theorem qw_Model_store_b31 {p : Program} {l : Launch} {e : Env} {s : State} {m : MethodId} {args : Array Value} {below : List Frame} {meth : Method} {c : Code} {A : Nat → Prop} {g : xx_G} {r : Int32} {u9 : qm_S} (C : xx_C p s m args meth c kb_Model_store 7 kr_Model (some .int)) (hA : ∀ q, s.heap.size ≤ q → A q) (hK : va_K g.1 xx_cls (qm_T g) s) : ∀ (n : Nat), ∀ (u : qm_S) (x2 : Int32) (x3 : Int32) (x4 : Int32) (x6 : Int32) (H : Heap) (locs : List Loc) (ls : Array Slot), qf_Model_store_b31 n u x2 x3 x4 x6 = some (r, u9) → lv_has ls 7 [(0, .ref (g.2.1 0)), (2, .int x2), (3, .int x3), (4, .int x4), (6, .int x6)] → va_P g.1 xx_cls (qm_W g u) H → va_D A (qm_W g u) → va_S A s.heap H locs → W p l e (xx_rm 1 24) s m args below meth c H locs 0 0 (MQ below (xx_Q g.1 (qm_T g) (qm_W g) (some (.int r)) u9 A) args s 0 0 A) (F0 m 31 ls []) := by
  have hx := C.1
  have hb := C.2.1
  have hown := C.2.2.2.1
  have hts := C.2.2.2.2.1
  intro n
  induction n with
  | zero =>
    intro u x2 x3 x4 x6 H locs ls hF
    rw [qf_Model_store_b31] at hF
    cases hF
  | succ n ih =>
    intro u x2 x3 x4 x6 H locs ls hF hl hP hD hS
    rw [qf_Model_store_b31] at hF
    refine lv_iload hx hb qd_Model_store_31 (lv_at hl 4 rfl) ?_
    refine lv_iload hx hb qd_Model_store_33 (lv_at hl 3 rfl) ?_
    refine lv_icmp_ge (tgt := 58) hx hb qd_Model_store_35 (by decide) (fun hc => ?_) (fun hc => ?_)
    · have hF := xx_ip hc hF
      refine lv_aload_n hx hb qd_Model_store_58 rfl (lv_at hl 0 rfl) ?_
      refine lv_iload_n hx hb qd_Model_store_59 rfl (lv_at hl 1 rfl) ?_
      refine lv_iload_n hx hb qd_Model_store_60 rfl (lv_at hl 2 rfl) ?_
      refine lv_iload hx hb qd_Model_store_61 (lv_at hl 3 rfl) ?_
      obtain ⟨u1, eu1, hF⟩ := xx_ob hF
      refine xx_callV (n := 3) (As := [.int x2, .int x3, .int x4]) (rest := []) C (qc_Model_put l g u x2 x3 x4 u1 eu1) ⟨kw_989, kw_986, kw_988, ks_Model_put, kw_9⟩ ⟨by decide +kernel, by decide +kernel, by decide +kernel⟩ rfl ⟨Nat.le_of_ble_eq_true rfl, Nat.le_of_ble_eq_true rfl⟩ 0 rfl rfl hl.1 rfl (Nat.le_of_ble_eq_true rfl) hA hK hP hD hS ⟨Nat.le_refl _, Nat.le_refl _⟩ rfl rfl rfl qd_Model_store_63 (fun H locs hP hD hS => ?_)
      refine lv_iconst (v := (0 : Int32)) hx hb qd_Model_store_66 (by decide) ?_
      exact xx_iret C hF hK hP hD hS qd_Model_store_67
    · have hF := xx_in' hc hF
      refine lv_aload_n hx hb qd_Model_store_38 rfl (lv_at hl 0 rfl) ?_
      refine lv_iload_n hx hb qd_Model_store_39 rfl (lv_at hl 1 rfl) ?_
      refine lv_iload hx hb qd_Model_store_40 (lv_at hl 4 rfl) ?_
      refine lv_iadd hx hb qd_Model_store_42 ?_
      obtain ⟨v3, u2, eu2, hF⟩ := xx_b2_some hF
      refine xx_callV (n := 1) (As := [.int (x2 + x6)]) (rest := []) C (qc_Model_guarded l g u (x2 + x6) v3 u2 eu2) ⟨kw_978, kw_975, kw_977, ks_Model_guarded, kw_9⟩ ⟨by decide +kernel, by decide +kernel, by decide +kernel⟩ rfl ⟨Nat.le_of_ble_eq_true rfl, Nat.le_of_ble_eq_true rfl⟩ 0 rfl rfl hl.1 rfl (Nat.le_of_ble_eq_true rfl) hA hK hP hD hS ⟨Nat.le_refl _, Nat.le_refl _⟩ rfl rfl rfl qd_Model_store_43 (fun H locs hP hD hS => ?_)
      refine lv_if_eq (tgt := 52) hx hb qd_Model_store_46 (by decide) (fun hc => ?_) (fun hc => ?_)
      · have hF := xx_ip hc hF
        obtain ⟨v4, ev4, hF⟩ := xx_nm_some hF
        refine lv_iinc (k := 4) (v := v4) hx hb qd_Model_store_52 hl rfl (by rw [ev4, xx_lit1]) (by decide) rfl (fun ls hl => ?_)
        refine lv_goto (tgt := 31) hx hb qd_Model_store_55 (by decide) ?_
        exact ih u2 x2 x3 x4 v4 _ _ _ hF (lv_sub hl [1, 2, 3, 4, 0] rfl) hP hD hS
      · have hF := xx_in' hc hF
        refine lv_bipush (v := (6 : Int32)) hx hb qd_Model_store_49 (by decide) ?_
        exact xx_iret C hF hK hP hD hS qd_Model_store_51
set_option maxHeartbeats 4000000 in
set_option maxRecDepth 100000 in
theorem qc_Model_store (l : Launch) (g : xx_G) (u : qm_S) (x1 : Int32) (x2 : Int32) (x3 : Int32) (r : Int32) (u9 : qm_S) (hF : qf_Model_store u x1 x2 x3 = some (r, u9)) : xx_M l g.1 (qm_T g) (qm_W g) ky_Model_store kb_Model_store 7 (some .int) (xx_rm 1 24) [.ref (g.2.1 0), .int x1, .int x2, .int x3] u (some (.int r)) u9 := by
  refine xx_body (by decide) (Nat.le_of_ble_eq_true rfl) ?_
  intro p e s m args below meth c A ls C hin hK hl hA hP hD hS
  have hx := C.1
  have hb := C.2.1
  have hown := C.2.2.2.1
  have hts := C.2.2.2.2.1
  have hl : lv_has ls 7 [(0, .ref (g.2.1 0)), (1, .int x1), (2, .int x2), (3, .int x3)] := hl
  unfold qf_Model_store at hF
  refine lv_iload_n hx hb qd_Model_store_0 rfl (lv_at hl 1 rfl) ?_
  refine lv_iconst (v := (2 : Int32)) hx hb qd_Model_store_1 (by decide) ?_
  refine lv_icmp_le (tgt := 7) hx hb qd_Model_store_2 (by decide) (fun hc => ?_) (fun hc => ?_)
  · have hF := xx_ip hc hF
    refine lv_iconst (v := (1 : Int32)) hx hb qd_Model_store_7 (by decide) ?_
    refine lv_iload_n hx hb qd_Model_store_8 rfl (lv_at hl 1 rfl) ?_
    refine lv_ishl hx hb qd_Model_store_9 ?_
    obtain ⟨v1, ev1, hF⟩ := xx_nm_some hF
    refine xx_topi ev1 ?_
    refine lv_istore hx hb qd_Model_store_10 hl (by decide) rfl (fun ls hl => ?_)
    refine lv_iload_n hx hb qd_Model_store_12 rfl (lv_at hl 3 rfl) ?_
    refine lv_iload hx hb qd_Model_store_13 (lv_at hl 0 rfl) ?_
    obtain ⟨v3, u2, eu2, hF⟩ := xx_b2_some hF
    refine xx_callS (n := 2) (As := [.int x2, .int v1]) (rest := []) C (qc_Model_access l g u x2 v1 v3 u2 eu2) ⟨kw_1117, kw_1115, kw_1116, kw_9⟩ ⟨by decide +kernel, by decide +kernel, by decide +kernel⟩ rfl ⟨Nat.le_of_ble_eq_true rfl, Nat.le_of_ble_eq_true rfl⟩ hl.1 rfl (Nat.le_of_ble_eq_true rfl) hA hK hP hD hS ⟨Nat.le_refl _, Nat.le_refl _⟩ rfl rfl rfl qd_Model_store_15 (fun H locs hP hD hS => ?_)
    refine lv_istore hx hb qd_Model_store_18 hl (by decide) rfl (fun ls hl => ?_)
    refine lv_iload hx hb qd_Model_store_20 (lv_at hl 0 rfl) ?_
    refine lv_if_le (tgt := 28) hx hb qd_Model_store_22 (by decide) (fun hc => ?_) (fun hc => ?_)
    · have hF := xx_ip hc hF
      refine lv_iconst (v := (0 : Int32)) hx hb qd_Model_store_28 (by decide) ?_
      obtain ⟨v4, ev4, hF⟩ := xx_nm_some hF
      refine xx_topi ev4 ?_
      refine lv_istore hx hb qd_Model_store_29 hl (by decide) rfl (fun ls hl => ?_)
      exact qw_Model_store_b31 C hA hK xx_fu u2 x2 x3 v1 v4 _ _ _ hF (lv_sub hl [3, 5, 6, 2, 0] rfl) hP hD hS
    · have hF := xx_in' hc hF
      refine lv_iload hx hb qd_Model_store_25 (lv_at hl 0 rfl) ?_
      exact xx_iret C hF hK hP hD hS qd_Model_store_27
  · have hF := xx_in' hc hF
    refine lv_iconst (v := (3 : Int32)) hx hb qd_Model_store_5 (by decide) ?_
    exact xx_iret C hF hK hP hD hS qd_Model_store_6
theorem qd_Model_lookup_0 : decode kb_Model_lookup 0 = .ok (.aload_n 0, 1) := by decide +kernel
theorem qd_Model_lookup_1 : decode kb_Model_lookup 1 = .ok (.iconst 0, 1) := by decide +kernel
theorem qd_Model_lookup_2 : decode kb_Model_lookup 2 = .ok (.putfield 57, 3) := by decide +kernel
theorem qd_Model_lookup_5 : decode kb_Model_lookup 5 = .ok (.aload_n 0, 1) := by decide +kernel
theorem qd_Model_lookup_6 : decode kb_Model_lookup 6 = .ok (.iload_n 1, 1) := by decide +kernel
theorem qd_Model_lookup_7 : decode kb_Model_lookup 7 = .ok (.invokevirtual 86, 3) := by decide +kernel
theorem qd_Model_lookup_10 : decode kb_Model_lookup 10 = .ok (.istore_n 3, 1) := by decide +kernel
theorem qd_Model_lookup_11 : decode kb_Model_lookup 11 = .ok (.iload_n 3, 1) := by decide +kernel
theorem qd_Model_lookup_12 : decode kb_Model_lookup 12 = .ok (.ifCond .ge (5), 3) := by decide +kernel
theorem qd_Model_lookup_15 : decode kb_Model_lookup 15 = .ok (.iconst (-1), 1) := by decide +kernel
theorem qd_Model_lookup_16 : decode kb_Model_lookup 16 = .ok (.ireturn, 1) := by decide +kernel
theorem qd_Model_lookup_17 : decode kb_Model_lookup 17 = .ok (.iload_n 2, 1) := by decide +kernel
theorem qd_Model_lookup_18 : decode kb_Model_lookup 18 = .ok (.ifCond .ne (12), 3) := by decide +kernel
theorem qd_Model_lookup_21 : decode kb_Model_lookup 21 = .ok (.aload_n 0, 1) := by decide +kernel
theorem qd_Model_lookup_22 : decode kb_Model_lookup 22 = .ok (.getfield 19, 3) := by decide +kernel
theorem qd_Model_lookup_25 : decode kb_Model_lookup 25 = .ok (.iload_n 3, 1) := by decide +kernel
theorem qd_Model_lookup_26 : decode kb_Model_lookup 26 = .ok (.iaload, 1) := by decide +kernel
theorem qd_Model_lookup_27 : decode kb_Model_lookup 27 = .ok (.goto (50), 3) := by decide +kernel
theorem qd_Model_lookup_30 : decode kb_Model_lookup 30 = .ok (.iload_n 2, 1) := by decide +kernel
theorem qd_Model_lookup_31 : decode kb_Model_lookup 31 = .ok (.iconst 1, 1) := by decide +kernel
theorem qd_Model_lookup_32 : decode kb_Model_lookup 32 = .ok (.if_icmp .ne (12), 3) := by decide +kernel
theorem qd_Model_lookup_35 : decode kb_Model_lookup 35 = .ok (.aload_n 0, 1) := by decide +kernel
theorem qd_Model_lookup_36 : decode kb_Model_lookup 36 = .ok (.getfield 16, 3) := by decide +kernel
theorem qd_Model_lookup_39 : decode kb_Model_lookup 39 = .ok (.iload_n 3, 1) := by decide +kernel
theorem qd_Model_lookup_40 : decode kb_Model_lookup 40 = .ok (.iaload, 1) := by decide +kernel
theorem qd_Model_lookup_41 : decode kb_Model_lookup 41 = .ok (.goto (36), 3) := by decide +kernel
theorem qd_Model_lookup_44 : decode kb_Model_lookup 44 = .ok (.iload_n 2, 1) := by decide +kernel
theorem qd_Model_lookup_45 : decode kb_Model_lookup 45 = .ok (.iconst 2, 1) := by decide +kernel
theorem qd_Model_lookup_46 : decode kb_Model_lookup 46 = .ok (.if_icmp .ne (30), 3) := by decide +kernel
theorem qd_Model_lookup_49 : decode kb_Model_lookup 49 = .ok (.aload_n 0, 1) := by decide +kernel
theorem qd_Model_lookup_50 : decode kb_Model_lookup 50 = .ok (.getfield 22, 3) := by decide +kernel
theorem qd_Model_lookup_53 : decode kb_Model_lookup 53 = .ok (.iload_n 3, 1) := by decide +kernel
theorem qd_Model_lookup_54 : decode kb_Model_lookup 54 = .ok (.iaload, 1) := by decide +kernel
theorem qd_Model_lookup_55 : decode kb_Model_lookup 55 = .ok (.ifCond .ge (7), 3) := by decide +kernel
theorem qd_Model_lookup_58 : decode kb_Model_lookup 58 = .ok (.iconst 0, 1) := by decide +kernel
theorem qd_Model_lookup_59 : decode kb_Model_lookup 59 = .ok (.goto (18), 3) := by decide +kernel
theorem qd_Model_lookup_62 : decode kb_Model_lookup 62 = .ok (.aload_n 0, 1) := by decide +kernel
theorem qd_Model_lookup_63 : decode kb_Model_lookup 63 = .ok (.getfield 29, 3) := by decide +kernel
theorem qd_Model_lookup_66 : decode kb_Model_lookup 66 = .ok (.aload_n 0, 1) := by decide +kernel
theorem qd_Model_lookup_67 : decode kb_Model_lookup 67 = .ok (.getfield 22, 3) := by decide +kernel
theorem qd_Model_lookup_70 : decode kb_Model_lookup 70 = .ok (.iload_n 3, 1) := by decide +kernel
theorem qd_Model_lookup_71 : decode kb_Model_lookup 71 = .ok (.iaload, 1) := by decide +kernel
theorem qd_Model_lookup_72 : decode kb_Model_lookup 72 = .ok (.iaload, 1) := by decide +kernel
theorem qd_Model_lookup_73 : decode kb_Model_lookup 73 = .ok (.goto (4), 3) := by decide +kernel
theorem qd_Model_lookup_76 : decode kb_Model_lookup 76 = .ok (.iconst (-1), 1) := by decide +kernel
theorem qd_Model_lookup_77 : decode kb_Model_lookup 77 = .ok (.ireturn, 1) := by decide +kernel
def qf_Model_lookup_b77 (u : qm_S) (y0 : Int32) : Option (Int32 × qm_S) := some (y0, u)
def qf_Model_lookup (u : qm_S) (x1 : Int32) (x2 : Int32) : Option (Int32 × qm_S) := xx_nm (va_up u.1 0 (0 : Int32), u.2) fun u1 => xx_b2 (qf_Model_find u1 x1) fun v3 u2 => if 0 ≤ v3 then (if x2 = 0 then ((xx_ag (u2.2 4) 40 v3).bind fun v8 => qf_Model_lookup_b77 u2 v8) else (if x2 = (1 : Int32) then ((xx_ag (u2.2 3) 40 v3).bind fun v7 => qf_Model_lookup_b77 u2 v7) else (if x2 = (2 : Int32) then ((xx_ag (u2.2 5) 40 v3).bind fun v4 => if 0 ≤ v4 then ((xx_ag (u2.2 5) 40 v3).bind fun v5 => (xx_ag (u2.2 7) 12 v5).bind fun v6 => qf_Model_lookup_b77 u2 v6) else (qf_Model_lookup_b77 u2 (0 : Int32))) else (qf_Model_lookup_b77 u2 (-1 : Int32))))) else (some ((-1 : Int32), u2))
set_option maxHeartbeats 4000000 in
set_option maxRecDepth 100000 in
theorem qw_Model_lookup_b77 {p : Program} {l : Launch} {e : Env} {s : State} {m : MethodId} {args : Array Value} {below : List Frame} {meth : Method} {c : Code} {A : Nat → Prop} {g : xx_G} {r : Int32} {u9 : qm_S} (C : xx_C p s m args meth c kb_Model_lookup 4 kr_Model (some .int)) (hA : ∀ q, s.heap.size ≤ q → A q) (hK : va_K g.1 xx_cls (qm_T g) s) : ∀ (u : qm_S) (y0 : Int32) (H : Heap) (locs : List Loc) (ls : Array Slot), qf_Model_lookup_b77 u y0 = some (r, u9) → lv_has ls 4 [] → va_P g.1 xx_cls (qm_W g u) H → va_D A (qm_W g u) → va_S A s.heap H locs → W p l e (xx_rm 1 22) s m args below meth c H locs 0 0 (MQ below (xx_Q g.1 (qm_T g) (qm_W g) (some (.int r)) u9 A) args s 0 0 A) (F0 m 77 ls [.int y0]) := by
  have hx := C.1
  have hb := C.2.1
  have hown := C.2.2.2.1
  have hts := C.2.2.2.2.1
  intro u y0 H locs ls hF hl hP hD hS
  unfold qf_Model_lookup_b77 at hF
  exact xx_iret C hF hK hP hD hS qd_Model_lookup_77
set_option maxHeartbeats 4000000 in
set_option maxRecDepth 100000 in
theorem qc_Model_lookup (l : Launch) (g : xx_G) (u : qm_S) (x1 : Int32) (x2 : Int32) (r : Int32) (u9 : qm_S) (hF : qf_Model_lookup u x1 x2 = some (r, u9)) : xx_M l g.1 (qm_T g) (qm_W g) ky_Model_lookup kb_Model_lookup 4 (some .int) (xx_rm 1 22) [.ref (g.2.1 0), .int x1, .int x2] u (some (.int r)) u9 := by
  refine xx_body (by decide) (Nat.le_of_ble_eq_true rfl) ?_
  intro p e s m args below meth c A ls C hin hK hl hA hP hD hS
  have hx := C.1
  have hb := C.2.1
  have hown := C.2.2.2.1
  have hts := C.2.2.2.2.1
  have hl : lv_has ls 4 [(0, .ref (g.2.1 0)), (1, .int x1), (2, .int x2)] := hl
  unfold qf_Model_lookup at hF
  refine lv_aload_n hx hb qd_Model_lookup_0 rfl (lv_at hl 0 rfl) ?_
  refine lv_iconst (v := (0 : Int32)) hx hb qd_Model_lookup_1 (by decide) ?_
  obtain ⟨u1, eu1, hF⟩ := xx_nm_some hF
  refine xx_put (ws1 := qm_W g u1) C ki_Model kt_Model ko_Model kn_Model hK hP hD hS 0 rfl rfl 0 (by decide) kw_873 rfl rfl rfl rfl (Nat.le_of_ble_eq_true rfl) (by rw [eu1]; rfl) qd_Model_lookup_2 (fun H locs hP hD hS => ?_)
  refine lv_aload_n hx hb qd_Model_lookup_5 rfl (lv_at hl 0 rfl) ?_
  refine lv_iload_n hx hb qd_Model_lookup_6 rfl (lv_at hl 1 rfl) ?_
  obtain ⟨v3, u2, eu2, hF⟩ := xx_b2_some hF
  refine xx_callV (n := 1) (As := [.int x1]) (rest := []) C (qc_Model_find l g u1 x1 v3 u2 eu2) ⟨kw_1012, kw_1009, kw_1011, ks_Model_find, kw_9⟩ ⟨by decide +kernel, by decide +kernel, by decide +kernel⟩ rfl ⟨Nat.le_of_ble_eq_true rfl, Nat.le_of_ble_eq_true rfl⟩ 0 rfl rfl hl.1 rfl (Nat.le_of_ble_eq_true rfl) hA hK hP hD hS ⟨Nat.le_refl _, Nat.le_refl _⟩ rfl rfl rfl qd_Model_lookup_7 (fun H locs hP hD hS => ?_)
  refine lv_istore_n hx hb qd_Model_lookup_10 rfl hl (by decide) rfl (fun ls hl => ?_)
  refine lv_iload_n hx hb qd_Model_lookup_11 rfl (lv_at hl 0 rfl) ?_
  refine lv_if_ge (tgt := 17) hx hb qd_Model_lookup_12 (by decide) (fun hc => ?_) (fun hc => ?_)
  · have hF := xx_ip hc hF
    refine lv_iload_n hx hb qd_Model_lookup_17 rfl (lv_at hl 3 rfl) ?_
    refine lv_if_ne (tgt := 30) hx hb qd_Model_lookup_18 (by decide) (fun hc => ?_) (fun hc => ?_)
    · have hF := xx_in' hc hF
      refine lv_iload_n hx hb qd_Model_lookup_30 rfl (lv_at hl 3 rfl) ?_
      refine lv_iconst (v := (1 : Int32)) hx hb qd_Model_lookup_31 (by decide) ?_
      refine lv_icmp_ne (tgt := 44) hx hb qd_Model_lookup_32 (by decide) (fun hc => ?_) (fun hc => ?_)
      · have hF := xx_in' hc hF
        refine lv_iload_n hx hb qd_Model_lookup_44 rfl (lv_at hl 3 rfl) ?_
        refine lv_iconst (v := (2 : Int32)) hx hb qd_Model_lookup_45 (by decide) ?_
        refine lv_icmp_ne (tgt := 76) hx hb qd_Model_lookup_46 (by decide) (fun hc => ?_) (fun hc => ?_)
        · have hF := xx_in' hc hF
          refine lv_iconst (v := (-1 : Int32)) hx hb qd_Model_lookup_76 (by decide) ?_
          exact qw_Model_lookup_b77 C hA hK  u2 (-1 : Int32) _ _ _ hF (lv_sub hl [] rfl) hP hD hS
        · have hF := xx_ip hc hF
          refine lv_aload_n hx hb qd_Model_lookup_49 rfl (lv_at hl 1 rfl) ?_
          refine xx_get C ki_Model hK hP 0 rfl rfl 7 (by decide) kw_880 rfl rfl qd_Model_lookup_50 ?_
          refine lv_iload_n hx hb qd_Model_lookup_53 rfl (lv_at hl 0 rfl) ?_
          obtain ⟨v4, ev4, hF⟩ := xx_ob hF
          refine xx_iald C hK hP 5 0 rfl rfl ev4 qd_Model_lookup_54 ?_
          refine lv_if_ge (tgt := 62) hx hb qd_Model_lookup_55 (by decide) (fun hc => ?_) (fun hc => ?_)
          · have hF := xx_ip hc hF
            refine lv_aload_n hx hb qd_Model_lookup_62 rfl (lv_at hl 1 rfl) ?_
            refine xx_get C ki_Model hK hP 0 rfl rfl 9 (by decide) kw_882 rfl rfl qd_Model_lookup_63 ?_
            refine lv_aload_n hx hb qd_Model_lookup_66 rfl (lv_at hl 1 rfl) ?_
            refine xx_get C ki_Model hK hP 0 rfl rfl 7 (by decide) kw_880 rfl rfl qd_Model_lookup_67 ?_
            refine lv_iload_n hx hb qd_Model_lookup_70 rfl (lv_at hl 0 rfl) ?_
            obtain ⟨v5, ev5, hF⟩ := xx_ob hF
            refine xx_iald C hK hP 5 0 rfl rfl ev5 qd_Model_lookup_71 ?_
            obtain ⟨v6, ev6, hF⟩ := xx_ob hF
            refine xx_iald C hK hP 7 0 rfl rfl ev6 qd_Model_lookup_72 ?_
            refine lv_goto (tgt := 77) hx hb qd_Model_lookup_73 (by decide) ?_
            exact qw_Model_lookup_b77 C hA hK  u2 v6 _ _ _ hF (lv_sub hl [] rfl) hP hD hS
          · have hF := xx_in' hc hF
            refine lv_iconst (v := (0 : Int32)) hx hb qd_Model_lookup_58 (by decide) ?_
            refine lv_goto (tgt := 77) hx hb qd_Model_lookup_59 (by decide) ?_
            exact qw_Model_lookup_b77 C hA hK  u2 (0 : Int32) _ _ _ hF (lv_sub hl [] rfl) hP hD hS
      · have hF := xx_ip hc hF
        refine lv_aload_n hx hb qd_Model_lookup_35 rfl (lv_at hl 1 rfl) ?_
        refine xx_get C ki_Model hK hP 0 rfl rfl 5 (by decide) kw_878 rfl rfl qd_Model_lookup_36 ?_
        refine lv_iload_n hx hb qd_Model_lookup_39 rfl (lv_at hl 0 rfl) ?_
        obtain ⟨v7, ev7, hF⟩ := xx_ob hF
        refine xx_iald C hK hP 3 0 rfl rfl ev7 qd_Model_lookup_40 ?_
        refine lv_goto (tgt := 77) hx hb qd_Model_lookup_41 (by decide) ?_
        exact qw_Model_lookup_b77 C hA hK  u2 v7 _ _ _ hF (lv_sub hl [] rfl) hP hD hS
    · have hF := xx_ip hc hF
      refine lv_aload_n hx hb qd_Model_lookup_21 rfl (lv_at hl 1 rfl) ?_
      refine xx_get C ki_Model hK hP 0 rfl rfl 6 (by decide) kw_879 rfl rfl qd_Model_lookup_22 ?_
      refine lv_iload_n hx hb qd_Model_lookup_25 rfl (lv_at hl 0 rfl) ?_
      obtain ⟨v8, ev8, hF⟩ := xx_ob hF
      refine xx_iald C hK hP 4 0 rfl rfl ev8 qd_Model_lookup_26 ?_
      refine lv_goto (tgt := 77) hx hb qd_Model_lookup_27 (by decide) ?_
      exact qw_Model_lookup_b77 C hA hK  u2 v8 _ _ _ hF (lv_sub hl [] rfl) hP hD hS
  · have hF := xx_in' hc hF
    refine lv_iconst (v := (-1 : Int32)) hx hb qd_Model_lookup_15 (by decide) ?_
    exact xx_iret C hF hK hP hD hS qd_Model_lookup_16
set_option maxRecDepth 100000 in
theorem kw_1064 : Cond.code ky_Model_numberOf kb_Model_numberOf 3 (some .int) ∈ xx_tb := xx_in (List.mem_append_right _ (List.mem_of_getElem? (i := 1064) (by rfl))) (by decide +kernel)
theorem kw_1061 : Cond.methodLink "ModuleLoaderModel" 161 ky_Model_numberOf ∈ xx_tb := xx_in (List.mem_append_right _ (List.mem_of_getElem? (i := 1061) (by decide +kernel))) (by decide +kernel)
theorem kw_1063 : Cond.instanceMethod ky_Model_numberOf ∈ xx_tb := xx_in (List.mem_append_right _ (List.mem_of_getElem? (i := 1063) (by decide +kernel))) (by decide +kernel)
theorem ks_Model_numberOf : Cond.selects "ModuleLoaderModel" ky_Model_numberOf ky_Model_numberOf ∈ xx_tb := xx_in (List.mem_append_left _ (by decide +kernel)) (by decide +kernel)
theorem qd_Model_module_0 : decode kb_Model_module 0 = .ok (.aload_n 0, 1) := by decide +kernel
theorem qd_Model_module_1 : decode kb_Model_module 1 = .ok (.iconst 0, 1) := by decide +kernel
theorem qd_Model_module_2 : decode kb_Model_module 2 = .ok (.putfield 57, 3) := by decide +kernel
theorem qd_Model_module_5 : decode kb_Model_module 5 = .ok (.aload_n 0, 1) := by decide +kernel
theorem qd_Model_module_6 : decode kb_Model_module 6 = .ok (.iload_n 1, 1) := by decide +kernel
theorem qd_Model_module_7 : decode kb_Model_module 7 = .ok (.invokevirtual 161, 3) := by decide +kernel
theorem qd_Model_module_10 : decode kb_Model_module 10 = .ok (.istore_n 3, 1) := by decide +kernel
theorem qd_Model_module_11 : decode kb_Model_module 11 = .ok (.iload_n 3, 1) := by decide +kernel
theorem qd_Model_module_12 : decode kb_Model_module 12 = .ok (.ifCond .lt (12), 3) := by decide +kernel
theorem qd_Model_module_15 : decode kb_Model_module 15 = .ok (.iload_n 2, 1) := by decide +kernel
theorem qd_Model_module_16 : decode kb_Model_module 16 = .ok (.ifCond .lt (8), 3) := by decide +kernel
theorem qd_Model_module_19 : decode kb_Model_module 19 = .ok (.iload_n 2, 1) := by decide +kernel
theorem qd_Model_module_20 : decode kb_Model_module 20 = .ok (.iconst 4, 1) := by decide +kernel
theorem qd_Model_module_21 : decode kb_Model_module 21 = .ok (.if_icmp .le (5), 3) := by decide +kernel
theorem qd_Model_module_24 : decode kb_Model_module 24 = .ok (.iconst (-1), 1) := by decide +kernel
theorem qd_Model_module_25 : decode kb_Model_module 25 = .ok (.ireturn, 1) := by decide +kernel
theorem qd_Model_module_26 : decode kb_Model_module 26 = .ok (.iload_n 2, 1) := by decide +kernel
theorem qd_Model_module_27 : decode kb_Model_module 27 = .ok (.iconst 2, 1) := by decide +kernel
theorem qd_Model_module_28 : decode kb_Model_module 28 = .ok (.if_icmp .ge (23), 3) := by decide +kernel
theorem qd_Model_module_31 : decode kb_Model_module 31 = .ok (.iload_n 2, 1) := by decide +kernel
theorem qd_Model_module_32 : decode kb_Model_module 32 = .ok (.ifCond .ne (12), 3) := by decide +kernel
theorem qd_Model_module_35 : decode kb_Model_module 35 = .ok (.aload_n 0, 1) := by decide +kernel
theorem qd_Model_module_36 : decode kb_Model_module 36 = .ok (.getfield 32, 3) := by decide +kernel
theorem qd_Model_module_39 : decode kb_Model_module 39 = .ok (.iload_n 3, 1) := by decide +kernel
theorem qd_Model_module_40 : decode kb_Model_module 40 = .ok (.iaload, 1) := by decide +kernel
theorem qd_Model_module_41 : decode kb_Model_module 41 = .ok (.goto (9), 3) := by decide +kernel
theorem qd_Model_module_44 : decode kb_Model_module 44 = .ok (.aload_n 0, 1) := by decide +kernel
theorem qd_Model_module_45 : decode kb_Model_module 45 = .ok (.getfield 35, 3) := by decide +kernel
theorem qd_Model_module_48 : decode kb_Model_module 48 = .ok (.iload_n 3, 1) := by decide +kernel
theorem qd_Model_module_49 : decode kb_Model_module 49 = .ok (.iaload, 1) := by decide +kernel
theorem qd_Model_module_50 : decode kb_Model_module 50 = .ok (.ireturn, 1) := by decide +kernel
theorem qd_Model_module_51 : decode kb_Model_module 51 = .ok (.iconst 0, 1) := by decide +kernel
theorem qd_Model_module_52 : decode kb_Model_module 52 = .ok (.istore 4, 2) := by decide +kernel
theorem qd_Model_module_54 : decode kb_Model_module 54 = .ok (.iconst 0, 1) := by decide +kernel
theorem qd_Model_module_55 : decode kb_Model_module 55 = .ok (.istore 5, 2) := by decide +kernel
theorem qd_Model_module_57 : decode kb_Model_module 57 = .ok (.iload 5, 2) := by decide +kernel
theorem qd_Model_module_59 : decode kb_Model_module 59 = .ok (.bipush (40), 2) := by decide +kernel
theorem qd_Model_module_61 : decode kb_Model_module 61 = .ok (.if_icmp .ge (44), 3) := by decide +kernel
theorem qd_Model_module_64 : decode kb_Model_module 64 = .ok (.iload_n 2, 1) := by decide +kernel
theorem qd_Model_module_65 : decode kb_Model_module 65 = .ok (.iconst 2, 1) := by decide +kernel
theorem qd_Model_module_66 : decode kb_Model_module 66 = .ok (.if_icmp .ne (39), 3) := by decide +kernel
theorem qd_Model_module_69 : decode kb_Model_module 69 = .ok (.iload 4, 2) := by decide +kernel
theorem qd_Model_module_71 : decode kb_Model_module 71 = .ok (.iload 5, 2) := by decide +kernel
theorem qd_Model_module_73 : decode kb_Model_module 73 = .ok (.aload_n 0, 1) := by decide +kernel
theorem qd_Model_module_74 : decode kb_Model_module 74 = .ok (.getfield 80, 3) := by decide +kernel
theorem qd_Model_module_77 : decode kb_Model_module 77 = .ok (.if_icmp .ge (18), 3) := by decide +kernel
theorem qd_Model_module_80 : decode kb_Model_module 80 = .ok (.aload_n 0, 1) := by decide +kernel
theorem qd_Model_module_81 : decode kb_Model_module 81 = .ok (.getfield 22, 3) := by decide +kernel
theorem qd_Model_module_84 : decode kb_Model_module 84 = .ok (.iload 5, 2) := by decide +kernel
theorem qd_Model_module_86 : decode kb_Model_module 86 = .ok (.iaload, 1) := by decide +kernel
theorem qd_Model_module_87 : decode kb_Model_module 87 = .ok (.iload_n 3, 1) := by decide +kernel
theorem qd_Model_module_88 : decode kb_Model_module 88 = .ok (.if_icmp .ne (7), 3) := by decide +kernel
theorem qd_Model_module_91 : decode kb_Model_module 91 = .ok (.iconst 1, 1) := by decide +kernel
theorem qd_Model_module_92 : decode kb_Model_module 92 = .ok (.goto (4), 3) := by decide +kernel
theorem qd_Model_module_95 : decode kb_Model_module 95 = .ok (.iconst 0, 1) := by decide +kernel
theorem qd_Model_module_96 : decode kb_Model_module 96 = .ok (.iadd, 1) := by decide +kernel
theorem qd_Model_module_97 : decode kb_Model_module 97 = .ok (.istore 4, 2) := by decide +kernel
theorem qd_Model_module_99 : decode kb_Model_module 99 = .ok (.iinc 5 (1), 3) := by decide +kernel
theorem qd_Model_module_102 : decode kb_Model_module 102 = .ok (.goto (-45), 3) := by decide +kernel
theorem qd_Model_module_105 : decode kb_Model_module 105 = .ok (.iconst 0, 1) := by decide +kernel
theorem qd_Model_module_106 : decode kb_Model_module 106 = .ok (.istore 5, 2) := by decide +kernel
theorem qd_Model_module_108 : decode kb_Model_module 108 = .ok (.iload 5, 2) := by decide +kernel
theorem qd_Model_module_110 : decode kb_Model_module 110 = .ok (.bipush (12), 2) := by decide +kernel
theorem qd_Model_module_112 : decode kb_Model_module 112 = .ok (.if_icmp .ge (64), 3) := by decide +kernel
theorem qd_Model_module_115 : decode kb_Model_module 115 = .ok (.iload_n 2, 1) := by decide +kernel
theorem qd_Model_module_116 : decode kb_Model_module 116 = .ok (.iconst 2, 1) := by decide +kernel
theorem qd_Model_module_117 : decode kb_Model_module 117 = .ok (.if_icmp .le (59), 3) := by decide +kernel
theorem qd_Model_module_120 : decode kb_Model_module 120 = .ok (.iload 4, 2) := by decide +kernel
theorem qd_Model_module_122 : decode kb_Model_module 122 = .ok (.aload_n 0, 1) := by decide +kernel
theorem qd_Model_module_123 : decode kb_Model_module 123 = .ok (.getfield 25, 3) := by decide +kernel
theorem qd_Model_module_126 : decode kb_Model_module 126 = .ok (.iload 5, 2) := by decide +kernel
theorem qd_Model_module_128 : decode kb_Model_module 128 = .ok (.baload, 1) := by decide +kernel
theorem qd_Model_module_129 : decode kb_Model_module 129 = .ok (.ifCond .eq (37), 3) := by decide +kernel
theorem qd_Model_module_132 : decode kb_Model_module 132 = .ok (.aload_n 0, 1) := by decide +kernel
theorem qd_Model_module_133 : decode kb_Model_module 133 = .ok (.getfield 44, 3) := by decide +kernel
theorem qd_Model_module_136 : decode kb_Model_module 136 = .ok (.iload_n 2, 1) := by decide +kernel
theorem qd_Model_module_137 : decode kb_Model_module 137 = .ok (.iconst 3, 1) := by decide +kernel
theorem qd_Model_module_138 : decode kb_Model_module 138 = .ok (.if_icmp .ne (13), 3) := by decide +kernel
theorem qd_Model_module_141 : decode kb_Model_module 141 = .ok (.bipush (12), 2) := by decide +kernel
theorem qd_Model_module_143 : decode kb_Model_module 143 = .ok (.iload 5, 2) := by decide +kernel
theorem qd_Model_module_145 : decode kb_Model_module 145 = .ok (.imul, 1) := by decide +kernel
theorem qd_Model_module_146 : decode kb_Model_module 146 = .ok (.iload_n 3, 1) := by decide +kernel
theorem qd_Model_module_147 : decode kb_Model_module 147 = .ok (.iadd, 1) := by decide +kernel
theorem qd_Model_module_148 : decode kb_Model_module 148 = .ok (.goto (10), 3) := by decide +kernel
theorem qd_Model_module_151 : decode kb_Model_module 151 = .ok (.bipush (12), 2) := by decide +kernel
theorem qd_Model_module_153 : decode kb_Model_module 153 = .ok (.iload_n 3, 1) := by decide +kernel
theorem qd_Model_module_154 : decode kb_Model_module 154 = .ok (.imul, 1) := by decide +kernel
theorem qd_Model_module_155 : decode kb_Model_module 155 = .ok (.iload 5, 2) := by decide +kernel
theorem qd_Model_module_157 : decode kb_Model_module 157 = .ok (.iadd, 1) := by decide +kernel
theorem qd_Model_module_158 : decode kb_Model_module 158 = .ok (.baload, 1) := by decide +kernel
theorem qd_Model_module_159 : decode kb_Model_module 159 = .ok (.ifCond .eq (7), 3) := by decide +kernel
theorem qd_Model_module_162 : decode kb_Model_module 162 = .ok (.iconst 1, 1) := by decide +kernel
theorem qd_Model_module_163 : decode kb_Model_module 163 = .ok (.goto (4), 3) := by decide +kernel
theorem qd_Model_module_166 : decode kb_Model_module 166 = .ok (.iconst 0, 1) := by decide +kernel
theorem qd_Model_module_167 : decode kb_Model_module 167 = .ok (.iadd, 1) := by decide +kernel
theorem qd_Model_module_168 : decode kb_Model_module 168 = .ok (.istore 4, 2) := by decide +kernel
theorem qd_Model_module_170 : decode kb_Model_module 170 = .ok (.iinc 5 (1), 3) := by decide +kernel
theorem qd_Model_module_173 : decode kb_Model_module 173 = .ok (.goto (-65), 3) := by decide +kernel
theorem qd_Model_module_176 : decode kb_Model_module 176 = .ok (.iload 4, 2) := by decide +kernel
theorem qd_Model_module_178 : decode kb_Model_module 178 = .ok (.ireturn, 1) := by decide +kernel
def qf_Model_module_b24 (u : qm_S) : Option (Int32 × qm_S) := some ((-1 : Int32), u)
def qf_Model_module_b50 (u : qm_S) (y0 : Int32) : Option (Int32 × qm_S) := some (y0, u)
def qf_Model_module_b96 (rec57 : qm_S → Int32 → Int32 → Int32 → Int32 → Option (Int32 × qm_S)) (u : qm_S) (x2 : Int32) (x3 : Int32) (x5 : Int32) (y0 : Int32) (y1 : Int32) : Option (Int32 × qm_S) := xx_nm (y0 + y1) fun v1 => xx_nm (x5 + (1 : Int32)) fun v2 => rec57 u x2 x3 v1 v2
def qf_Model_module_b95 (rec57 : qm_S → Int32 → Int32 → Int32 → Int32 → Option (Int32 × qm_S)) (u : qm_S) (x2 : Int32) (x3 : Int32) (x5 : Int32) (y0 : Int32) : Option (Int32 × qm_S) := qf_Model_module_b96 rec57 u x2 x3 x5 y0 (0 : Int32)
def qf_Model_module_b167 (rec108 : qm_S → Int32 → Int32 → Int32 → Int32 → Option (Int32 × qm_S)) (u : qm_S) (x2 : Int32) (x3 : Int32) (x5 : Int32) (y0 : Int32) (y1 : Int32) : Option (Int32 × qm_S) := xx_nm (y0 + y1) fun v1 => xx_nm (x5 + (1 : Int32)) fun v2 => rec108 u x2 x3 v1 v2
def qf_Model_module_b166 (rec108 : qm_S → Int32 → Int32 → Int32 → Int32 → Option (Int32 × qm_S)) (u : qm_S) (x2 : Int32) (x3 : Int32) (x5 : Int32) (y0 : Int32) : Option (Int32 × qm_S) := qf_Model_module_b167 rec108 u x2 x3 x5 y0 (0 : Int32)
def qf_Model_module_b158 (rec108 : qm_S → Int32 → Int32 → Int32 → Int32 → Option (Int32 × qm_S)) (u : qm_S) (x2 : Int32) (x3 : Int32) (x5 : Int32) (y0 : Int32) (y2 : Int32) : Option (Int32 × qm_S) := (xx_ag (u.2 12) 144 y2).bind fun v1 => if v1 = 0 then (qf_Model_module_b166 rec108 u x2 x3 x5 y0) else (qf_Model_module_b167 rec108 u x2 x3 x5 y0 (1 : Int32))
def qf_Model_module_b176 (u : qm_S) (x4 : Int32) : Option (Int32 × qm_S) := some (x4, u)
def qf_Model_module_b108 : Nat → qm_S → Int32 → Int32 → Int32 → Int32 → Option (Int32 × qm_S)
  | 0, _, _, _, _, _ => none
  | n + 1, u, x2, x3, x4, x5 => if (12 : Int32) ≤ x5 then (qf_Model_module_b176 u x4) else (if x2 ≤ (2 : Int32) then (qf_Model_module_b176 u x4) else ((xx_ag (u.2 6) 12 x5).bind fun v1 => if v1 = 0 then (qf_Model_module_b166 (qf_Model_module_b108 n) u x2 x3 x5 x4) else (if x2 = (3 : Int32) then (qf_Model_module_b158 (qf_Model_module_b108 n) u x2 x3 x5 x4 (((12 : Int32) * x5) + x3)) else (qf_Model_module_b158 (qf_Model_module_b108 n) u x2 x3 x5 x4 (((12 : Int32) * x3) + x5)))))
def qf_Model_module_b105 (u : qm_S) (x2 : Int32) (x3 : Int32) (x4 : Int32) : Option (Int32 × qm_S) := xx_nm (0 : Int32) fun v1 => qf_Model_module_b108 xx_fu u x2 x3 x4 v1
def qf_Model_module_b57 : Nat → qm_S → Int32 → Int32 → Int32 → Int32 → Option (Int32 × qm_S)
  | 0, _, _, _, _, _ => none
  | n + 1, u, x2, x3, x4, x5 => if (40 : Int32) ≤ x5 then (qf_Model_module_b105 u x2 x3 x4) else (if x2 = (2 : Int32) then (if (u.1 3) ≤ x5 then (qf_Model_module_b95 (qf_Model_module_b57 n) u x2 x3 x5 x4) else ((xx_ag (u.2 5) 40 x5).bind fun v1 => if v1 = x3 then (qf_Model_module_b96 (qf_Model_module_b57 n) u x2 x3 x5 x4 (1 : Int32)) else (qf_Model_module_b95 (qf_Model_module_b57 n) u x2 x3 x5 x4))) else (qf_Model_module_b105 u x2 x3 x4))
def qf_Model_module (u : qm_S) (x1 : Int32) (x2 : Int32) : Option (Int32 × qm_S) := xx_nm (va_up u.1 0 (0 : Int32), u.2) fun u1 => xx_b2 (qf_Model_numberOf u1 x1) fun v3 u2 => if v3 < 0 then (qf_Model_module_b24 u2) else (if x2 < 0 then (qf_Model_module_b24 u2) else (if x2 ≤ (4 : Int32) then (if (2 : Int32) ≤ x2 then (xx_nm (0 : Int32) fun v4 => xx_nm (0 : Int32) fun v5 => qf_Model_module_b57 xx_fu u2 x2 v3 v4 v5) else (if x2 = 0 then ((xx_ag (u2.2 8) 12 v3).bind fun v7 => qf_Model_module_b50 u2 v7) else ((xx_ag (u2.2 9) 12 v3).bind fun v6 => qf_Model_module_b50 u2 v6))) else (qf_Model_module_b24 u2)))
set_option maxHeartbeats 4000000 in
set_option maxRecDepth 100000 in
theorem qw_Model_module_b24 {p : Program} {l : Launch} {e : Env} {s : State} {m : MethodId} {args : Array Value} {below : List Frame} {meth : Method} {c : Code} {A : Nat → Prop} {g : xx_G} {r : Int32} {u9 : qm_S} (C : xx_C p s m args meth c kb_Model_module 6 kr_Model (some .int)) (hA : ∀ q, s.heap.size ≤ q → A q) (hK : va_K g.1 xx_cls (qm_T g) s) : ∀ (u : qm_S) (H : Heap) (locs : List Loc) (ls : Array Slot), qf_Model_module_b24 u = some (r, u9) → lv_has ls 6 [] → va_P g.1 xx_cls (qm_W g u) H → va_D A (qm_W g u) → va_S A s.heap H locs → W p l e (xx_rm 1 22) s m args below meth c H locs 0 0 (MQ below (xx_Q g.1 (qm_T g) (qm_W g) (some (.int r)) u9 A) args s 0 0 A) (F0 m 24 ls []) := by
  have hx := C.1
  have hb := C.2.1
  have hown := C.2.2.2.1
  have hts := C.2.2.2.2.1
  intro u H locs ls hF hl hP hD hS
  unfold qf_Model_module_b24 at hF
  refine lv_iconst (v := (-1 : Int32)) hx hb qd_Model_module_24 (by decide) ?_
  exact xx_iret C hF hK hP hD hS qd_Model_module_25
set_option maxHeartbeats 4000000 in
set_option maxRecDepth 100000 in
theorem qw_Model_module_b50 {p : Program} {l : Launch} {e : Env} {s : State} {m : MethodId} {args : Array Value} {below : List Frame} {meth : Method} {c : Code} {A : Nat → Prop} {g : xx_G} {r : Int32} {u9 : qm_S} (C : xx_C p s m args meth c kb_Model_module 6 kr_Model (some .int)) (hA : ∀ q, s.heap.size ≤ q → A q) (hK : va_K g.1 xx_cls (qm_T g) s) : ∀ (u : qm_S) (y0 : Int32) (H : Heap) (locs : List Loc) (ls : Array Slot), qf_Model_module_b50 u y0 = some (r, u9) → lv_has ls 6 [] → va_P g.1 xx_cls (qm_W g u) H → va_D A (qm_W g u) → va_S A s.heap H locs → W p l e (xx_rm 1 22) s m args below meth c H locs 0 0 (MQ below (xx_Q g.1 (qm_T g) (qm_W g) (some (.int r)) u9 A) args s 0 0 A) (F0 m 50 ls [.int y0]) := by
  have hx := C.1
  have hb := C.2.1
  have hown := C.2.2.2.1
  have hts := C.2.2.2.2.1
  intro u y0 H locs ls hF hl hP hD hS
  unfold qf_Model_module_b50 at hF
  exact xx_iret C hF hK hP hD hS qd_Model_module_50
set_option maxHeartbeats 4000000 in
set_option maxRecDepth 100000 in
theorem qw_Model_module_b96 {p : Program} {l : Launch} {e : Env} {s : State} {m : MethodId} {args : Array Value} {below : List Frame} {meth : Method} {c : Code} {A : Nat → Prop} {g : xx_G} {r : Int32} {u9 : qm_S} (C : xx_C p s m args meth c kb_Model_module 6 kr_Model (some .int)) (hA : ∀ q, s.heap.size ≤ q → A q) (hK : va_K g.1 xx_cls (qm_T g) s) {rec57 : qm_S → Int32 → Int32 → Int32 → Int32 → Option (Int32 × qm_S)} (hrec57 : ∀ (u : qm_S) (x2 : Int32) (x3 : Int32) (x4 : Int32) (x5 : Int32) (H : Heap) (locs : List Loc) (ls : Array Slot), rec57 u x2 x3 x4 x5 = some (r, u9) → lv_has ls 6 [(0, .ref (g.2.1 0)), (2, .int x2), (3, .int x3), (4, .int x4), (5, .int x5)] → va_P g.1 xx_cls (qm_W g u) H → va_D A (qm_W g u) → va_S A s.heap H locs → W p l e (xx_rm 1 22) s m args below meth c H locs 0 0 (MQ below (xx_Q g.1 (qm_T g) (qm_W g) (some (.int r)) u9 A) args s 0 0 A) (F0 m 57 ls [])) : ∀ (u : qm_S) (x2 : Int32) (x3 : Int32) (x5 : Int32) (y0 : Int32) (y1 : Int32) (H : Heap) (locs : List Loc) (ls : Array Slot), qf_Model_module_b96 rec57 u x2 x3 x5 y0 y1 = some (r, u9) → lv_has ls 6 [(0, .ref (g.2.1 0)), (2, .int x2), (3, .int x3), (5, .int x5)] → va_P g.1 xx_cls (qm_W g u) H → va_D A (qm_W g u) → va_S A s.heap H locs → W p l e (xx_rm 1 22) s m args below meth c H locs 0 0 (MQ below (xx_Q g.1 (qm_T g) (qm_W g) (some (.int r)) u9 A) args s 0 0 A) (F0 m 96 ls [.int y1, .int y0]) := by
  have hx := C.1
  have hb := C.2.1
  have hown := C.2.2.2.1
  have hts := C.2.2.2.2.1
  intro u x2 x3 x5 y0 y1 H locs ls hF hl hP hD hS
  unfold qf_Model_module_b96 at hF
  refine lv_iadd hx hb qd_Model_module_96 ?_
  obtain ⟨v1, ev1, hF⟩ := xx_nm_some hF
  refine xx_topi ev1 ?_
  refine lv_istore hx hb qd_Model_module_97 hl (by decide) rfl (fun ls hl => ?_)
  obtain ⟨v2, ev2, hF⟩ := xx_nm_some hF
  refine lv_iinc (k := 4) (v := v2) hx hb qd_Model_module_99 hl rfl (by rw [ev2, xx_lit1]) (by decide) rfl (fun ls hl => ?_)
  refine lv_goto (tgt := 57) hx hb qd_Model_module_102 (by decide) ?_
  exact hrec57 u x2 x3 v1 v2 _ _ _ hF (lv_sub hl [2, 3, 4, 1, 0] rfl) hP hD hS
set_option maxHeartbeats 4000000 in
set_option maxRecDepth 100000 in
theorem qw_Model_module_b95 {p : Program} {l : Launch} {e : Env} {s : State} {m : MethodId} {args : Array Value} {below : List Frame} {meth : Method} {c : Code} {A : Nat → Prop} {g : xx_G} {r : Int32} {u9 : qm_S} (C : xx_C p s m args meth c kb_Model_module 6 kr_Model (some .int)) (hA : ∀ q, s.heap.size ≤ q → A q) (hK : va_K g.1 xx_cls (qm_T g) s) {rec57 : qm_S → Int32 → Int32 → Int32 → Int32 → Option (Int32 × qm_S)} (hrec57 : ∀ (u : qm_S) (x2 : Int32) (x3 : Int32) (x4 : Int32) (x5 : Int32) (H : Heap) (locs : List Loc) (ls : Array Slot), rec57 u x2 x3 x4 x5 = some (r, u9) → lv_has ls 6 [(0, .ref (g.2.1 0)), (2, .int x2), (3, .int x3), (4, .int x4), (5, .int x5)] → va_P g.1 xx_cls (qm_W g u) H → va_D A (qm_W g u) → va_S A s.heap H locs → W p l e (xx_rm 1 22) s m args below meth c H locs 0 0 (MQ below (xx_Q g.1 (qm_T g) (qm_W g) (some (.int r)) u9 A) args s 0 0 A) (F0 m 57 ls [])) : ∀ (u : qm_S) (x2 : Int32) (x3 : Int32) (x5 : Int32) (y0 : Int32) (H : Heap) (locs : List Loc) (ls : Array Slot), qf_Model_module_b95 rec57 u x2 x3 x5 y0 = some (r, u9) → lv_has ls 6 [(0, .ref (g.2.1 0)), (2, .int x2), (3, .int x3), (5, .int x5)] → va_P g.1 xx_cls (qm_W g u) H → va_D A (qm_W g u) → va_S A s.heap H locs → W p l e (xx_rm 1 22) s m args below meth c H locs 0 0 (MQ below (xx_Q g.1 (qm_T g) (qm_W g) (some (.int r)) u9 A) args s 0 0 A) (F0 m 95 ls [.int y0]) := by
  have hx := C.1
  have hb := C.2.1
  have hown := C.2.2.2.1
  have hts := C.2.2.2.2.1
  intro u x2 x3 x5 y0 H locs ls hF hl hP hD hS
  unfold qf_Model_module_b95 at hF
  refine lv_iconst (v := (0 : Int32)) hx hb qd_Model_module_95 (by decide) ?_
  exact qw_Model_module_b96 C hA hK hrec57  u x2 x3 x5 y0 (0 : Int32) _ _ _ hF (lv_sub hl [0, 1, 2, 3] rfl) hP hD hS
set_option maxHeartbeats 4000000 in
set_option maxRecDepth 100000 in
theorem qw_Model_module_b167 {p : Program} {l : Launch} {e : Env} {s : State} {m : MethodId} {args : Array Value} {below : List Frame} {meth : Method} {c : Code} {A : Nat → Prop} {g : xx_G} {r : Int32} {u9 : qm_S} (C : xx_C p s m args meth c kb_Model_module 6 kr_Model (some .int)) (hA : ∀ q, s.heap.size ≤ q → A q) (hK : va_K g.1 xx_cls (qm_T g) s) {rec108 : qm_S → Int32 → Int32 → Int32 → Int32 → Option (Int32 × qm_S)} (hrec108 : ∀ (u : qm_S) (x2 : Int32) (x3 : Int32) (x4 : Int32) (x5 : Int32) (H : Heap) (locs : List Loc) (ls : Array Slot), rec108 u x2 x3 x4 x5 = some (r, u9) → lv_has ls 6 [(0, .ref (g.2.1 0)), (2, .int x2), (3, .int x3), (4, .int x4), (5, .int x5)] → va_P g.1 xx_cls (qm_W g u) H → va_D A (qm_W g u) → va_S A s.heap H locs → W p l e (xx_rm 1 22) s m args below meth c H locs 0 0 (MQ below (xx_Q g.1 (qm_T g) (qm_W g) (some (.int r)) u9 A) args s 0 0 A) (F0 m 108 ls [])) : ∀ (u : qm_S) (x2 : Int32) (x3 : Int32) (x5 : Int32) (y0 : Int32) (y1 : Int32) (H : Heap) (locs : List Loc) (ls : Array Slot), qf_Model_module_b167 rec108 u x2 x3 x5 y0 y1 = some (r, u9) → lv_has ls 6 [(0, .ref (g.2.1 0)), (2, .int x2), (3, .int x3), (5, .int x5)] → va_P g.1 xx_cls (qm_W g u) H → va_D A (qm_W g u) → va_S A s.heap H locs → W p l e (xx_rm 1 22) s m args below meth c H locs 0 0 (MQ below (xx_Q g.1 (qm_T g) (qm_W g) (some (.int r)) u9 A) args s 0 0 A) (F0 m 167 ls [.int y1, .int y0]) := by
  have hx := C.1
  have hb := C.2.1
  have hown := C.2.2.2.1
  have hts := C.2.2.2.2.1
  intro u x2 x3 x5 y0 y1 H locs ls hF hl hP hD hS
  unfold qf_Model_module_b167 at hF
  refine lv_iadd hx hb qd_Model_module_167 ?_
  obtain ⟨v1, ev1, hF⟩ := xx_nm_some hF
  refine xx_topi ev1 ?_
  refine lv_istore hx hb qd_Model_module_168 hl (by decide) rfl (fun ls hl => ?_)
  obtain ⟨v2, ev2, hF⟩ := xx_nm_some hF
  refine lv_iinc (k := 4) (v := v2) hx hb qd_Model_module_170 hl rfl (by rw [ev2, xx_lit1]) (by decide) rfl (fun ls hl => ?_)
  refine lv_goto (tgt := 108) hx hb qd_Model_module_173 (by decide) ?_
  exact hrec108 u x2 x3 v1 v2 _ _ _ hF (lv_sub hl [2, 3, 4, 1, 0] rfl) hP hD hS
set_option maxHeartbeats 4000000 in
set_option maxRecDepth 100000 in
theorem qw_Model_module_b166 {p : Program} {l : Launch} {e : Env} {s : State} {m : MethodId} {args : Array Value} {below : List Frame} {meth : Method} {c : Code} {A : Nat → Prop} {g : xx_G} {r : Int32} {u9 : qm_S} (C : xx_C p s m args meth c kb_Model_module 6 kr_Model (some .int)) (hA : ∀ q, s.heap.size ≤ q → A q) (hK : va_K g.1 xx_cls (qm_T g) s) {rec108 : qm_S → Int32 → Int32 → Int32 → Int32 → Option (Int32 × qm_S)} (hrec108 : ∀ (u : qm_S) (x2 : Int32) (x3 : Int32) (x4 : Int32) (x5 : Int32) (H : Heap) (locs : List Loc) (ls : Array Slot), rec108 u x2 x3 x4 x5 = some (r, u9) → lv_has ls 6 [(0, .ref (g.2.1 0)), (2, .int x2), (3, .int x3), (4, .int x4), (5, .int x5)] → va_P g.1 xx_cls (qm_W g u) H → va_D A (qm_W g u) → va_S A s.heap H locs → W p l e (xx_rm 1 22) s m args below meth c H locs 0 0 (MQ below (xx_Q g.1 (qm_T g) (qm_W g) (some (.int r)) u9 A) args s 0 0 A) (F0 m 108 ls [])) : ∀ (u : qm_S) (x2 : Int32) (x3 : Int32) (x5 : Int32) (y0 : Int32) (H : Heap) (locs : List Loc) (ls : Array Slot), qf_Model_module_b166 rec108 u x2 x3 x5 y0 = some (r, u9) → lv_has ls 6 [(0, .ref (g.2.1 0)), (2, .int x2), (3, .int x3), (5, .int x5)] → va_P g.1 xx_cls (qm_W g u) H → va_D A (qm_W g u) → va_S A s.heap H locs → W p l e (xx_rm 1 22) s m args below meth c H locs 0 0 (MQ below (xx_Q g.1 (qm_T g) (qm_W g) (some (.int r)) u9 A) args s 0 0 A) (F0 m 166 ls [.int y0]) := by
  have hx := C.1
  have hb := C.2.1
  have hown := C.2.2.2.1
  have hts := C.2.2.2.2.1
  intro u x2 x3 x5 y0 H locs ls hF hl hP hD hS
  unfold qf_Model_module_b166 at hF
  refine lv_iconst (v := (0 : Int32)) hx hb qd_Model_module_166 (by decide) ?_
  exact qw_Model_module_b167 C hA hK hrec108  u x2 x3 x5 y0 (0 : Int32) _ _ _ hF (lv_sub hl [0, 1, 2, 3] rfl) hP hD hS
set_option maxHeartbeats 4000000 in
set_option maxRecDepth 100000 in
theorem qw_Model_module_b158 {p : Program} {l : Launch} {e : Env} {s : State} {m : MethodId} {args : Array Value} {below : List Frame} {meth : Method} {c : Code} {A : Nat → Prop} {g : xx_G} {r : Int32} {u9 : qm_S} (C : xx_C p s m args meth c kb_Model_module 6 kr_Model (some .int)) (hA : ∀ q, s.heap.size ≤ q → A q) (hK : va_K g.1 xx_cls (qm_T g) s) {rec108 : qm_S → Int32 → Int32 → Int32 → Int32 → Option (Int32 × qm_S)} (hrec108 : ∀ (u : qm_S) (x2 : Int32) (x3 : Int32) (x4 : Int32) (x5 : Int32) (H : Heap) (locs : List Loc) (ls : Array Slot), rec108 u x2 x3 x4 x5 = some (r, u9) → lv_has ls 6 [(0, .ref (g.2.1 0)), (2, .int x2), (3, .int x3), (4, .int x4), (5, .int x5)] → va_P g.1 xx_cls (qm_W g u) H → va_D A (qm_W g u) → va_S A s.heap H locs → W p l e (xx_rm 1 22) s m args below meth c H locs 0 0 (MQ below (xx_Q g.1 (qm_T g) (qm_W g) (some (.int r)) u9 A) args s 0 0 A) (F0 m 108 ls [])) : ∀ (u : qm_S) (x2 : Int32) (x3 : Int32) (x5 : Int32) (y0 : Int32) (y2 : Int32) (H : Heap) (locs : List Loc) (ls : Array Slot), qf_Model_module_b158 rec108 u x2 x3 x5 y0 y2 = some (r, u9) → lv_has ls 6 [(0, .ref (g.2.1 0)), (2, .int x2), (3, .int x3), (5, .int x5)] → va_P g.1 xx_cls (qm_W g u) H → va_D A (qm_W g u) → va_S A s.heap H locs → W p l e (xx_rm 1 22) s m args below meth c H locs 0 0 (MQ below (xx_Q g.1 (qm_T g) (qm_W g) (some (.int r)) u9 A) args s 0 0 A) (F0 m 158 ls [.int y2, .ref (g.2.1 12), .int y0]) := by
  have hx := C.1
  have hb := C.2.1
  have hown := C.2.2.2.1
  have hts := C.2.2.2.2.1
  intro u x2 x3 x5 y0 y2 H locs ls hF hl hP hD hS
  unfold qf_Model_module_b158 at hF
  obtain ⟨v1, ev1, hF⟩ := xx_ob hF
  refine xx_zald C hK hP 12 1 rfl rfl ev1 qd_Model_module_158 ?_
  refine lv_if_eq (tgt := 166) hx hb qd_Model_module_159 (by decide) (fun hc => ?_) (fun hc => ?_)
  · have hF := xx_ip hc hF
    exact qw_Model_module_b166 C hA hK hrec108  u x2 x3 x5 y0 _ _ _ hF (lv_sub hl [0, 1, 2, 3] rfl) hP hD hS
  · have hF := xx_in' hc hF
    refine lv_iconst (v := (1 : Int32)) hx hb qd_Model_module_162 (by decide) ?_
    refine lv_goto (tgt := 167) hx hb qd_Model_module_163 (by decide) ?_
    exact qw_Model_module_b167 C hA hK hrec108  u x2 x3 x5 y0 (1 : Int32) _ _ _ hF (lv_sub hl [0, 1, 2, 3] rfl) hP hD hS
set_option maxHeartbeats 4000000 in
set_option maxRecDepth 100000 in
theorem qw_Model_module_b176 {p : Program} {l : Launch} {e : Env} {s : State} {m : MethodId} {args : Array Value} {below : List Frame} {meth : Method} {c : Code} {A : Nat → Prop} {g : xx_G} {r : Int32} {u9 : qm_S} (C : xx_C p s m args meth c kb_Model_module 6 kr_Model (some .int)) (hA : ∀ q, s.heap.size ≤ q → A q) (hK : va_K g.1 xx_cls (qm_T g) s) : ∀ (u : qm_S) (x4 : Int32) (H : Heap) (locs : List Loc) (ls : Array Slot), qf_Model_module_b176 u x4 = some (r, u9) → lv_has ls 6 [(4, .int x4)] → va_P g.1 xx_cls (qm_W g u) H → va_D A (qm_W g u) → va_S A s.heap H locs → W p l e (xx_rm 1 22) s m args below meth c H locs 0 0 (MQ below (xx_Q g.1 (qm_T g) (qm_W g) (some (.int r)) u9 A) args s 0 0 A) (F0 m 176 ls []) := by
  have hx := C.1
  have hb := C.2.1
  have hown := C.2.2.2.1
  have hts := C.2.2.2.2.1
  intro u x4 H locs ls hF hl hP hD hS
  unfold qf_Model_module_b176 at hF
  refine lv_iload hx hb qd_Model_module_176 (lv_at hl 0 rfl) ?_
  exact xx_iret C hF hK hP hD hS qd_Model_module_178
set_option maxHeartbeats 4000000 in
set_option maxRecDepth 100000 in
theorem qw_Model_module_b108 {p : Program} {l : Launch} {e : Env} {s : State} {m : MethodId} {args : Array Value} {below : List Frame} {meth : Method} {c : Code} {A : Nat → Prop} {g : xx_G} {r : Int32} {u9 : qm_S} (C : xx_C p s m args meth c kb_Model_module 6 kr_Model (some .int)) (hA : ∀ q, s.heap.size ≤ q → A q) (hK : va_K g.1 xx_cls (qm_T g) s) : ∀ (n : Nat), ∀ (u : qm_S) (x2 : Int32) (x3 : Int32) (x4 : Int32) (x5 : Int32) (H : Heap) (locs : List Loc) (ls : Array Slot), qf_Model_module_b108 n u x2 x3 x4 x5 = some (r, u9) → lv_has ls 6 [(0, .ref (g.2.1 0)), (2, .int x2), (3, .int x3), (4, .int x4), (5, .int x5)] → va_P g.1 xx_cls (qm_W g u) H → va_D A (qm_W g u) → va_S A s.heap H locs → W p l e (xx_rm 1 22) s m args below meth c H locs 0 0 (MQ below (xx_Q g.1 (qm_T g) (qm_W g) (some (.int r)) u9 A) args s 0 0 A) (F0 m 108 ls []) := by
  have hx := C.1
  have hb := C.2.1
  have hown := C.2.2.2.1
  have hts := C.2.2.2.2.1
  intro n
  induction n with
  | zero =>
    intro u x2 x3 x4 x5 H locs ls hF
    rw [qf_Model_module_b108] at hF
    cases hF
  | succ n ih =>
    intro u x2 x3 x4 x5 H locs ls hF hl hP hD hS
    rw [qf_Model_module_b108] at hF
    refine lv_iload hx hb qd_Model_module_108 (lv_at hl 4 rfl) ?_
    refine lv_bipush (v := (12 : Int32)) hx hb qd_Model_module_110 (by decide) ?_
    refine lv_icmp_ge (tgt := 176) hx hb qd_Model_module_112 (by decide) (fun hc => ?_) (fun hc => ?_)
    · have hF := xx_ip hc hF
      exact qw_Model_module_b176 C hA hK  u x4 _ _ _ hF (lv_sub hl [3] rfl) hP hD hS
    · have hF := xx_in' hc hF
      refine lv_iload_n hx hb qd_Model_module_115 rfl (lv_at hl 1 rfl) ?_
      refine lv_iconst (v := (2 : Int32)) hx hb qd_Model_module_116 (by decide) ?_
      refine lv_icmp_le (tgt := 176) hx hb qd_Model_module_117 (by decide) (fun hc => ?_) (fun hc => ?_)
      · have hF := xx_ip hc hF
        exact qw_Model_module_b176 C hA hK  u x4 _ _ _ hF (lv_sub hl [3] rfl) hP hD hS
      · have hF := xx_in' hc hF
        refine lv_iload hx hb qd_Model_module_120 (lv_at hl 3 rfl) ?_
        refine lv_aload_n hx hb qd_Model_module_122 rfl (lv_at hl 0 rfl) ?_
        refine xx_get C ki_Model hK hP 0 rfl rfl 8 (by decide) kw_881 rfl rfl qd_Model_module_123 ?_
        refine lv_iload hx hb qd_Model_module_126 (lv_at hl 4 rfl) ?_
        obtain ⟨v1, ev1, hF⟩ := xx_ob hF
        refine xx_zald C hK hP 6 1 rfl rfl ev1 qd_Model_module_128 ?_
        refine lv_if_eq (tgt := 166) hx hb qd_Model_module_129 (by decide) (fun hc => ?_) (fun hc => ?_)
        · have hF := xx_ip hc hF
          exact qw_Model_module_b166 C hA hK ih  u x2 x3 x5 x4 _ _ _ hF (lv_sub hl [0, 1, 2, 4] rfl) hP hD hS
        · have hF := xx_in' hc hF
          refine lv_aload_n hx hb qd_Model_module_132 rfl (lv_at hl 0 rfl) ?_
          refine xx_get C ki_Model hK hP 0 rfl rfl 14 (by decide) kw_887 rfl rfl qd_Model_module_133 ?_
          refine lv_iload_n hx hb qd_Model_module_136 rfl (lv_at hl 1 rfl) ?_
          refine lv_iconst (v := (3 : Int32)) hx hb qd_Model_module_137 (by decide) ?_
          refine lv_icmp_ne (tgt := 151) hx hb qd_Model_module_138 (by decide) (fun hc => ?_) (fun hc => ?_)
          · have hF := xx_in' hc hF
            refine lv_bipush (v := (12 : Int32)) hx hb qd_Model_module_151 (by decide) ?_
            refine lv_iload_n hx hb qd_Model_module_153 rfl (lv_at hl 2 rfl) ?_
            refine lv_imul hx hb qd_Model_module_154 ?_
            refine lv_iload hx hb qd_Model_module_155 (lv_at hl 4 rfl) ?_
            refine lv_iadd hx hb qd_Model_module_157 ?_
            exact qw_Model_module_b158 C hA hK ih  u x2 x3 x5 x4 (((12 : Int32) * x3) + x5) _ _ _ hF (lv_sub hl [0, 1, 2, 4] rfl) hP hD hS
          · have hF := xx_ip hc hF
            refine lv_bipush (v := (12 : Int32)) hx hb qd_Model_module_141 (by decide) ?_
            refine lv_iload hx hb qd_Model_module_143 (lv_at hl 4 rfl) ?_
            refine lv_imul hx hb qd_Model_module_145 ?_
            refine lv_iload_n hx hb qd_Model_module_146 rfl (lv_at hl 2 rfl) ?_
            refine lv_iadd hx hb qd_Model_module_147 ?_
            refine lv_goto (tgt := 158) hx hb qd_Model_module_148 (by decide) ?_
            exact qw_Model_module_b158 C hA hK ih  u x2 x3 x5 x4 (((12 : Int32) * x5) + x3) _ _ _ hF (lv_sub hl [0, 1, 2, 4] rfl) hP hD hS
set_option maxHeartbeats 4000000 in
set_option maxRecDepth 100000 in
theorem qw_Model_module_b105 {p : Program} {l : Launch} {e : Env} {s : State} {m : MethodId} {args : Array Value} {below : List Frame} {meth : Method} {c : Code} {A : Nat → Prop} {g : xx_G} {r : Int32} {u9 : qm_S} (C : xx_C p s m args meth c kb_Model_module 6 kr_Model (some .int)) (hA : ∀ q, s.heap.size ≤ q → A q) (hK : va_K g.1 xx_cls (qm_T g) s) : ∀ (u : qm_S) (x2 : Int32) (x3 : Int32) (x4 : Int32) (H : Heap) (locs : List Loc) (ls : Array Slot), qf_Model_module_b105 u x2 x3 x4 = some (r, u9) → lv_has ls 6 [(0, .ref (g.2.1 0)), (2, .int x2), (3, .int x3), (4, .int x4)] → va_P g.1 xx_cls (qm_W g u) H → va_D A (qm_W g u) → va_S A s.heap H locs → W p l e (xx_rm 1 22) s m args below meth c H locs 0 0 (MQ below (xx_Q g.1 (qm_T g) (qm_W g) (some (.int r)) u9 A) args s 0 0 A) (F0 m 105 ls []) := by
  have hx := C.1
  have hb := C.2.1
  have hown := C.2.2.2.1
  have hts := C.2.2.2.2.1
  intro u x2 x3 x4 H locs ls hF hl hP hD hS
  unfold qf_Model_module_b105 at hF
  refine lv_iconst (v := (0 : Int32)) hx hb qd_Model_module_105 (by decide) ?_
  obtain ⟨v1, ev1, hF⟩ := xx_nm_some hF
  refine xx_topi ev1 ?_
  refine lv_istore hx hb qd_Model_module_106 hl (by decide) rfl (fun ls hl => ?_)
  exact qw_Model_module_b108 C hA hK xx_fu u x2 x3 x4 v1 _ _ _ hF (lv_sub hl [1, 2, 3, 4, 0] rfl) hP hD hS
set_option maxHeartbeats 4000000 in
set_option maxRecDepth 100000 in
theorem qw_Model_module_b57 {p : Program} {l : Launch} {e : Env} {s : State} {m : MethodId} {args : Array Value} {below : List Frame} {meth : Method} {c : Code} {A : Nat → Prop} {g : xx_G} {r : Int32} {u9 : qm_S} (C : xx_C p s m args meth c kb_Model_module 6 kr_Model (some .int)) (hA : ∀ q, s.heap.size ≤ q → A q) (hK : va_K g.1 xx_cls (qm_T g) s) : ∀ (n : Nat), ∀ (u : qm_S) (x2 : Int32) (x3 : Int32) (x4 : Int32) (x5 : Int32) (H : Heap) (locs : List Loc) (ls : Array Slot), qf_Model_module_b57 n u x2 x3 x4 x5 = some (r, u9) → lv_has ls 6 [(0, .ref (g.2.1 0)), (2, .int x2), (3, .int x3), (4, .int x4), (5, .int x5)] → va_P g.1 xx_cls (qm_W g u) H → va_D A (qm_W g u) → va_S A s.heap H locs → W p l e (xx_rm 1 22) s m args below meth c H locs 0 0 (MQ below (xx_Q g.1 (qm_T g) (qm_W g) (some (.int r)) u9 A) args s 0 0 A) (F0 m 57 ls []) := by
  have hx := C.1
  have hb := C.2.1
  have hown := C.2.2.2.1
  have hts := C.2.2.2.2.1
  intro n
  induction n with
  | zero =>
    intro u x2 x3 x4 x5 H locs ls hF
    rw [qf_Model_module_b57] at hF
    cases hF
  | succ n ih =>
    intro u x2 x3 x4 x5 H locs ls hF hl hP hD hS
    rw [qf_Model_module_b57] at hF
    refine lv_iload hx hb qd_Model_module_57 (lv_at hl 4 rfl) ?_
    refine lv_bipush (v := (40 : Int32)) hx hb qd_Model_module_59 (by decide) ?_
    refine lv_icmp_ge (tgt := 105) hx hb qd_Model_module_61 (by decide) (fun hc => ?_) (fun hc => ?_)
    · have hF := xx_ip hc hF
      exact qw_Model_module_b105 C hA hK  u x2 x3 x4 _ _ _ hF (lv_sub hl [0, 1, 2, 3] rfl) hP hD hS
    · have hF := xx_in' hc hF
      refine lv_iload_n hx hb qd_Model_module_64 rfl (lv_at hl 1 rfl) ?_
      refine lv_iconst (v := (2 : Int32)) hx hb qd_Model_module_65 (by decide) ?_
      refine lv_icmp_ne (tgt := 105) hx hb qd_Model_module_66 (by decide) (fun hc => ?_) (fun hc => ?_)
      · have hF := xx_in' hc hF
        exact qw_Model_module_b105 C hA hK  u x2 x3 x4 _ _ _ hF (lv_sub hl [0, 1, 2, 3] rfl) hP hD hS
      · have hF := xx_ip hc hF
        refine lv_iload hx hb qd_Model_module_69 (lv_at hl 3 rfl) ?_
        refine lv_iload hx hb qd_Model_module_71 (lv_at hl 4 rfl) ?_
        refine lv_aload_n hx hb qd_Model_module_73 rfl (lv_at hl 0 rfl) ?_
        refine xx_get C ki_Model hK hP 0 rfl rfl 3 (by decide) kw_876 rfl rfl qd_Model_module_74 ?_
        refine lv_icmp_ge (tgt := 95) hx hb qd_Model_module_77 (by decide) (fun hc => ?_) (fun hc => ?_)
        · have hF := xx_ip hc hF
          exact qw_Model_module_b95 C hA hK ih  u x2 x3 x5 x4 _ _ _ hF (lv_sub hl [0, 1, 2, 4] rfl) hP hD hS
        · have hF := xx_in' hc hF
          refine lv_aload_n hx hb qd_Model_module_80 rfl (lv_at hl 0 rfl) ?_
          refine xx_get C ki_Model hK hP 0 rfl rfl 7 (by decide) kw_880 rfl rfl qd_Model_module_81 ?_
          refine lv_iload hx hb qd_Model_module_84 (lv_at hl 4 rfl) ?_
          obtain ⟨v1, ev1, hF⟩ := xx_ob hF
          refine xx_iald C hK hP 5 0 rfl rfl ev1 qd_Model_module_86 ?_
          refine lv_iload_n hx hb qd_Model_module_87 rfl (lv_at hl 2 rfl) ?_
          refine lv_icmp_ne (tgt := 95) hx hb qd_Model_module_88 (by decide) (fun hc => ?_) (fun hc => ?_)
          · have hF := xx_in' hc hF
            exact qw_Model_module_b95 C hA hK ih  u x2 x3 x5 x4 _ _ _ hF (lv_sub hl [0, 1, 2, 4] rfl) hP hD hS
          · have hF := xx_ip hc hF
            refine lv_iconst (v := (1 : Int32)) hx hb qd_Model_module_91 (by decide) ?_
            refine lv_goto (tgt := 96) hx hb qd_Model_module_92 (by decide) ?_
            exact qw_Model_module_b96 C hA hK ih  u x2 x3 x5 x4 (1 : Int32) _ _ _ hF (lv_sub hl [0, 1, 2, 4] rfl) hP hD hS
set_option maxHeartbeats 4000000 in
set_option maxRecDepth 100000 in
theorem qc_Model_module (l : Launch) (g : xx_G) (u : qm_S) (x1 : Int32) (x2 : Int32) (r : Int32) (u9 : qm_S) (hF : qf_Model_module u x1 x2 = some (r, u9)) : xx_M l g.1 (qm_T g) (qm_W g) ky_Model_module kb_Model_module 6 (some .int) (xx_rm 1 22) [.ref (g.2.1 0), .int x1, .int x2] u (some (.int r)) u9 := by
  refine xx_body (by decide) (Nat.le_of_ble_eq_true rfl) ?_
  intro p e s m args below meth c A ls C hin hK hl hA hP hD hS
  have hx := C.1
  have hb := C.2.1
  have hown := C.2.2.2.1
  have hts := C.2.2.2.2.1
  have hl : lv_has ls 6 [(0, .ref (g.2.1 0)), (1, .int x1), (2, .int x2)] := hl
  unfold qf_Model_module at hF
  refine lv_aload_n hx hb qd_Model_module_0 rfl (lv_at hl 0 rfl) ?_
  refine lv_iconst (v := (0 : Int32)) hx hb qd_Model_module_1 (by decide) ?_
  obtain ⟨u1, eu1, hF⟩ := xx_nm_some hF
  refine xx_put (ws1 := qm_W g u1) C ki_Model kt_Model ko_Model kn_Model hK hP hD hS 0 rfl rfl 0 (by decide) kw_873 rfl rfl rfl rfl (Nat.le_of_ble_eq_true rfl) (by rw [eu1]; rfl) qd_Model_module_2 (fun H locs hP hD hS => ?_)
  refine lv_aload_n hx hb qd_Model_module_5 rfl (lv_at hl 0 rfl) ?_
  refine lv_iload_n hx hb qd_Model_module_6 rfl (lv_at hl 1 rfl) ?_
  obtain ⟨v3, u2, eu2, hF⟩ := xx_b2_some hF
  refine xx_callV (n := 1) (As := [.int x1]) (rest := []) C (qc_Model_numberOf l g u1 x1 v3 u2 eu2) ⟨kw_1064, kw_1061, kw_1063, ks_Model_numberOf, kw_9⟩ ⟨by decide +kernel, by decide +kernel, by decide +kernel⟩ rfl ⟨Nat.le_of_ble_eq_true rfl, Nat.le_of_ble_eq_true rfl⟩ 0 rfl rfl hl.1 rfl (Nat.le_of_ble_eq_true rfl) hA hK hP hD hS ⟨Nat.le_refl _, Nat.le_refl _⟩ rfl rfl rfl qd_Model_module_7 (fun H locs hP hD hS => ?_)
  refine lv_istore_n hx hb qd_Model_module_10 rfl hl (by decide) rfl (fun ls hl => ?_)
  refine lv_iload_n hx hb qd_Model_module_11 rfl (lv_at hl 0 rfl) ?_
  refine lv_if_lt (tgt := 24) hx hb qd_Model_module_12 (by decide) (fun hc => ?_) (fun hc => ?_)
  · have hF := xx_ip hc hF
    exact qw_Model_module_b24 C hA hK  u2 _ _ _ hF (lv_sub hl [] rfl) hP hD hS
  · have hF := xx_in' hc hF
    refine lv_iload_n hx hb qd_Model_module_15 rfl (lv_at hl 3 rfl) ?_
    refine lv_if_lt (tgt := 24) hx hb qd_Model_module_16 (by decide) (fun hc => ?_) (fun hc => ?_)
    · have hF := xx_ip hc hF
      exact qw_Model_module_b24 C hA hK  u2 _ _ _ hF (lv_sub hl [] rfl) hP hD hS
    · have hF := xx_in' hc hF
      refine lv_iload_n hx hb qd_Model_module_19 rfl (lv_at hl 3 rfl) ?_
      refine lv_iconst (v := (4 : Int32)) hx hb qd_Model_module_20 (by decide) ?_
      refine lv_icmp_le (tgt := 26) hx hb qd_Model_module_21 (by decide) (fun hc => ?_) (fun hc => ?_)
      · have hF := xx_ip hc hF
        refine lv_iload_n hx hb qd_Model_module_26 rfl (lv_at hl 3 rfl) ?_
        refine lv_iconst (v := (2 : Int32)) hx hb qd_Model_module_27 (by decide) ?_
        refine lv_icmp_ge (tgt := 51) hx hb qd_Model_module_28 (by decide) (fun hc => ?_) (fun hc => ?_)
        · have hF := xx_ip hc hF
          refine lv_iconst (v := (0 : Int32)) hx hb qd_Model_module_51 (by decide) ?_
          obtain ⟨v4, ev4, hF⟩ := xx_nm_some hF
          refine xx_topi ev4 ?_
          refine lv_istore hx hb qd_Model_module_52 hl (by decide) rfl (fun ls hl => ?_)
          refine lv_iconst (v := (0 : Int32)) hx hb qd_Model_module_54 (by decide) ?_
          obtain ⟨v5, ev5, hF⟩ := xx_nm_some hF
          refine xx_topi ev5 ?_
          refine lv_istore hx hb qd_Model_module_55 hl (by decide) rfl (fun ls hl => ?_)
          exact qw_Model_module_b57 C hA hK xx_fu u2 x2 v3 v4 v5 _ _ _ hF (lv_sub hl [3, 5, 2, 1, 0] rfl) hP hD hS
        · have hF := xx_in' hc hF
          refine lv_iload_n hx hb qd_Model_module_31 rfl (lv_at hl 3 rfl) ?_
          refine lv_if_ne (tgt := 44) hx hb qd_Model_module_32 (by decide) (fun hc => ?_) (fun hc => ?_)
          · have hF := xx_in' hc hF
            refine lv_aload_n hx hb qd_Model_module_44 rfl (lv_at hl 1 rfl) ?_
            refine xx_get C ki_Model hK hP 0 rfl rfl 11 (by decide) kw_884 rfl rfl qd_Model_module_45 ?_
            refine lv_iload_n hx hb qd_Model_module_48 rfl (lv_at hl 0 rfl) ?_
            obtain ⟨v6, ev6, hF⟩ := xx_ob hF
            refine xx_iald C hK hP 9 0 rfl rfl ev6 qd_Model_module_49 ?_
            exact qw_Model_module_b50 C hA hK  u2 v6 _ _ _ hF (lv_sub hl [] rfl) hP hD hS
          · have hF := xx_ip hc hF
            refine lv_aload_n hx hb qd_Model_module_35 rfl (lv_at hl 1 rfl) ?_
            refine xx_get C ki_Model hK hP 0 rfl rfl 10 (by decide) kw_883 rfl rfl qd_Model_module_36 ?_
            refine lv_iload_n hx hb qd_Model_module_39 rfl (lv_at hl 0 rfl) ?_
            obtain ⟨v7, ev7, hF⟩ := xx_ob hF
            refine xx_iald C hK hP 8 0 rfl rfl ev7 qd_Model_module_40 ?_
            refine lv_goto (tgt := 50) hx hb qd_Model_module_41 (by decide) ?_
            exact qw_Model_module_b50 C hA hK  u2 v7 _ _ _ hF (lv_sub hl [] rfl) hP hD hS
      · have hF := xx_in' hc hF
        exact qw_Model_module_b24 C hA hK  u2 _ _ _ hF (lv_sub hl [] rfl) hP hD hS
theorem qd_Model_count_0 : decode kb_Model_count 0 = .ok (.aload_n 0, 1) := by decide +kernel
theorem qd_Model_count_1 : decode kb_Model_count 1 = .ok (.iconst 0, 1) := by decide +kernel
theorem qd_Model_count_2 : decode kb_Model_count 2 = .ok (.putfield 57, 3) := by decide +kernel
theorem qd_Model_count_5 : decode kb_Model_count 5 = .ok (.iconst 0, 1) := by decide +kernel
theorem qd_Model_count_6 : decode kb_Model_count 6 = .ok (.istore_n 2, 1) := by decide +kernel
theorem qd_Model_count_7 : decode kb_Model_count 7 = .ok (.iconst 0, 1) := by decide +kernel
theorem qd_Model_count_8 : decode kb_Model_count 8 = .ok (.istore_n 3, 1) := by decide +kernel
theorem qd_Model_count_9 : decode kb_Model_count 9 = .ok (.iconst 0, 1) := by decide +kernel
theorem qd_Model_count_10 : decode kb_Model_count 10 = .ok (.istore 4, 2) := by decide +kernel
theorem qd_Model_count_12 : decode kb_Model_count 12 = .ok (.iconst 0, 1) := by decide +kernel
theorem qd_Model_count_13 : decode kb_Model_count 13 = .ok (.istore 5, 2) := by decide +kernel
theorem qd_Model_count_15 : decode kb_Model_count 15 = .ok (.iconst 0, 1) := by decide +kernel
theorem qd_Model_count_16 : decode kb_Model_count 16 = .ok (.istore 6, 2) := by decide +kernel
theorem qd_Model_count_18 : decode kb_Model_count 18 = .ok (.iload 6, 2) := by decide +kernel
theorem qd_Model_count_20 : decode kb_Model_count 20 = .ok (.bipush (12), 2) := by decide +kernel
theorem qd_Model_count_22 : decode kb_Model_count 22 = .ok (.if_icmp .ge (27), 3) := by decide +kernel
theorem qd_Model_count_25 : decode kb_Model_count 25 = .ok (.iload_n 2, 1) := by decide +kernel
theorem qd_Model_count_26 : decode kb_Model_count 26 = .ok (.aload_n 0, 1) := by decide +kernel
theorem qd_Model_count_27 : decode kb_Model_count 27 = .ok (.getfield 25, 3) := by decide +kernel
theorem qd_Model_count_30 : decode kb_Model_count 30 = .ok (.iload 6, 2) := by decide +kernel
theorem qd_Model_count_32 : decode kb_Model_count 32 = .ok (.baload, 1) := by decide +kernel
theorem qd_Model_count_33 : decode kb_Model_count 33 = .ok (.ifCond .eq (7), 3) := by decide +kernel
theorem qd_Model_count_36 : decode kb_Model_count 36 = .ok (.iconst 1, 1) := by decide +kernel
theorem qd_Model_count_37 : decode kb_Model_count 37 = .ok (.goto (4), 3) := by decide +kernel
theorem qd_Model_count_40 : decode kb_Model_count 40 = .ok (.iconst 0, 1) := by decide +kernel
theorem qd_Model_count_41 : decode kb_Model_count 41 = .ok (.iadd, 1) := by decide +kernel
theorem qd_Model_count_42 : decode kb_Model_count 42 = .ok (.istore_n 2, 1) := by decide +kernel
theorem qd_Model_count_43 : decode kb_Model_count 43 = .ok (.iinc 6 (1), 3) := by decide +kernel
theorem qd_Model_count_46 : decode kb_Model_count 46 = .ok (.goto (-28), 3) := by decide +kernel
theorem qd_Model_count_49 : decode kb_Model_count 49 = .ok (.iconst 0, 1) := by decide +kernel
theorem qd_Model_count_50 : decode kb_Model_count 50 = .ok (.istore 6, 2) := by decide +kernel
theorem qd_Model_count_52 : decode kb_Model_count 52 = .ok (.iload 6, 2) := by decide +kernel
theorem qd_Model_count_54 : decode kb_Model_count 54 = .ok (.sipush (208), 3) := by decide +kernel
theorem qd_Model_count_57 : decode kb_Model_count 57 = .ok (.if_icmp .ge (61), 3) := by decide +kernel
theorem qd_Model_count_60 : decode kb_Model_count 60 = .ok (.aload_n 0, 1) := by decide +kernel
theorem qd_Model_count_61 : decode kb_Model_count 61 = .ok (.iload 6, 2) := by decide +kernel
theorem qd_Model_count_63 : decode kb_Model_count 63 = .ok (.invokevirtual 133, 3) := by decide +kernel
theorem qd_Model_count_66 : decode kb_Model_count 66 = .ok (.istore 7, 2) := by decide +kernel
theorem qd_Model_count_68 : decode kb_Model_count 68 = .ok (.iload_n 3, 1) := by decide +kernel
theorem qd_Model_count_69 : decode kb_Model_count 69 = .ok (.iload 7, 2) := by decide +kernel
theorem qd_Model_count_71 : decode kb_Model_count 71 = .ok (.ifCond .eq (7), 3) := by decide +kernel
theorem qd_Model_count_74 : decode kb_Model_count 74 = .ok (.iconst 1, 1) := by decide +kernel
theorem qd_Model_count_75 : decode kb_Model_count 75 = .ok (.goto (4), 3) := by decide +kernel
theorem qd_Model_count_78 : decode kb_Model_count 78 = .ok (.iconst 0, 1) := by decide +kernel
theorem qd_Model_count_79 : decode kb_Model_count 79 = .ok (.iadd, 1) := by decide +kernel
theorem qd_Model_count_80 : decode kb_Model_count 80 = .ok (.istore_n 3, 1) := by decide +kernel
theorem qd_Model_count_81 : decode kb_Model_count 81 = .ok (.iload 7, 2) := by decide +kernel
theorem qd_Model_count_83 : decode kb_Model_count 83 = .ok (.ifCond .eq (10), 3) := by decide +kernel
theorem qd_Model_count_86 : decode kb_Model_count 86 = .ok (.iload 4, 2) := by decide +kernel
theorem qd_Model_count_88 : decode kb_Model_count 88 = .ok (.iconst 1, 1) := by decide +kernel
theorem qd_Model_count_89 : decode kb_Model_count 89 = .ok (.iadd, 1) := by decide +kernel
theorem qd_Model_count_90 : decode kb_Model_count 90 = .ok (.goto (4), 3) := by decide +kernel
theorem qd_Model_count_93 : decode kb_Model_count 93 = .ok (.iconst 0, 1) := by decide +kernel
theorem qd_Model_count_94 : decode kb_Model_count 94 = .ok (.istore 4, 2) := by decide +kernel
theorem qd_Model_count_96 : decode kb_Model_count 96 = .ok (.iload 4, 2) := by decide +kernel
theorem qd_Model_count_98 : decode kb_Model_count 98 = .ok (.iload 5, 2) := by decide +kernel
theorem qd_Model_count_100 : decode kb_Model_count 100 = .ok (.if_icmp .le (8), 3) := by decide +kernel
theorem qd_Model_count_103 : decode kb_Model_count 103 = .ok (.iload 4, 2) := by decide +kernel
theorem qd_Model_count_105 : decode kb_Model_count 105 = .ok (.goto (5), 3) := by decide +kernel
theorem qd_Model_count_108 : decode kb_Model_count 108 = .ok (.iload 5, 2) := by decide +kernel
theorem qd_Model_count_110 : decode kb_Model_count 110 = .ok (.istore 5, 2) := by decide +kernel
theorem qd_Model_count_112 : decode kb_Model_count 112 = .ok (.iinc 6 (1), 3) := by decide +kernel
theorem qd_Model_count_115 : decode kb_Model_count 115 = .ok (.goto (-63), 3) := by decide +kernel
theorem qd_Model_count_118 : decode kb_Model_count 118 = .ok (.iload_n 1, 1) := by decide +kernel
theorem qd_Model_count_119 : decode kb_Model_count 119 = .ok (.tableswitch (50) (0) (4) #[33, 35, 40, 42, 45], 33) := by decide +kernel
theorem qd_Model_count_152 : decode kb_Model_count 152 = .ok (.iload_n 2, 1) := by decide +kernel
theorem qd_Model_count_153 : decode kb_Model_count 153 = .ok (.ireturn, 1) := by decide +kernel
theorem qd_Model_count_154 : decode kb_Model_count 154 = .ok (.aload_n 0, 1) := by decide +kernel
theorem qd_Model_count_155 : decode kb_Model_count 155 = .ok (.getfield 80, 3) := by decide +kernel
theorem qd_Model_count_158 : decode kb_Model_count 158 = .ok (.ireturn, 1) := by decide +kernel
theorem qd_Model_count_159 : decode kb_Model_count 159 = .ok (.iload_n 3, 1) := by decide +kernel
theorem qd_Model_count_160 : decode kb_Model_count 160 = .ok (.ireturn, 1) := by decide +kernel
theorem qd_Model_count_161 : decode kb_Model_count 161 = .ok (.iload 5, 2) := by decide +kernel
theorem qd_Model_count_163 : decode kb_Model_count 163 = .ok (.ireturn, 1) := by decide +kernel
theorem qd_Model_count_164 : decode kb_Model_count 164 = .ok (.aload_n 0, 1) := by decide +kernel
theorem qd_Model_count_165 : decode kb_Model_count 165 = .ok (.getfield 93, 3) := by decide +kernel
theorem qd_Model_count_168 : decode kb_Model_count 168 = .ok (.ireturn, 1) := by decide +kernel
theorem qd_Model_count_169 : decode kb_Model_count 169 = .ok (.iconst (-1), 1) := by decide +kernel
theorem qd_Model_count_170 : decode kb_Model_count 170 = .ok (.ireturn, 1) := by decide +kernel
def qf_Model_count_b41 (rec18 : qm_S → Int32 → Int32 → Int32 → Int32 → Int32 → Int32 → Option (Int32 × qm_S)) (u : qm_S) (x1 : Int32) (x3 : Int32) (x4 : Int32) (x5 : Int32) (x6 : Int32) (y0 : Int32) (y1 : Int32) : Option (Int32 × qm_S) := xx_nm (y0 + y1) fun v1 => xx_nm (x6 + (1 : Int32)) fun v2 => rec18 u x1 v1 x3 x4 x5 v2
def qf_Model_count_b110 (rec52 : qm_S → Int32 → Int32 → Int32 → Int32 → Int32 → Int32 → Option (Int32 × qm_S)) (u : qm_S) (x1 : Int32) (x2 : Int32) (x3 : Int32) (x4 : Int32) (x6 : Int32) (y0 : Int32) : Option (Int32 × qm_S) := xx_nm (x6 + (1 : Int32)) fun v1 => rec52 u x1 x2 x3 x4 y0 v1
def qf_Model_count_b94 (rec52 : qm_S → Int32 → Int32 → Int32 → Int32 → Int32 → Int32 → Option (Int32 × qm_S)) (u : qm_S) (x1 : Int32) (x2 : Int32) (x3 : Int32) (x5 : Int32) (x6 : Int32) (y0 : Int32) : Option (Int32 × qm_S) := if y0 ≤ x5 then (qf_Model_count_b110 rec52 u x1 x2 x3 y0 x6 x5) else (qf_Model_count_b110 rec52 u x1 x2 x3 y0 x6 y0)
def qf_Model_count_b79 (rec52 : qm_S → Int32 → Int32 → Int32 → Int32 → Int32 → Int32 → Option (Int32 × qm_S)) (u : qm_S) (x1 : Int32) (x2 : Int32) (x4 : Int32) (x5 : Int32) (x6 : Int32) (x7 : Int32) (y0 : Int32) (y1 : Int32) : Option (Int32 × qm_S) := xx_nm (y0 + y1) fun v1 => if x7 = 0 then (qf_Model_count_b94 rec52 u x1 x2 v1 x5 x6 (0 : Int32)) else (qf_Model_count_b94 rec52 u x1 x2 v1 x5 x6 (x4 + (1 : Int32)))
def qf_Model_count_b52 : Nat → qm_S → Int32 → Int32 → Int32 → Int32 → Int32 → Int32 → Option (Int32 × qm_S)
  | 0, _, _, _, _, _, _, _ => none
  | n + 1, u, x1, x2, x3, x4, x5, x6 => if (208 : Int32) ≤ x6 then (if x1 = 0 then (some (x2, u)) else (if x1 = 1 then (some ((u.1 3), u)) else (if x1 = 2 then (some (x3, u)) else (if x1 = 3 then (some (x5, u)) else (if x1 = 4 then (some ((u.1 15), u)) else (some ((-1 : Int32), u))))))) else (xx_b2 (qf_Model_isRowFree u x6) fun v2 u1 => if v2 = 0 then (qf_Model_count_b79 (qf_Model_count_b52 n) u1 x1 x2 x4 x5 x6 v2 x3 (0 : Int32)) else (qf_Model_count_b79 (qf_Model_count_b52 n) u1 x1 x2 x4 x5 x6 v2 x3 (1 : Int32)))
def qf_Model_count_b18 : Nat → qm_S → Int32 → Int32 → Int32 → Int32 → Int32 → Int32 → Option (Int32 × qm_S)
  | 0, _, _, _, _, _, _, _ => none
  | n + 1, u, x1, x2, x3, x4, x5, x6 => if (12 : Int32) ≤ x6 then (xx_nm (0 : Int32) fun v1 => qf_Model_count_b52 xx_fu u x1 x2 x3 x4 x5 v1) else ((xx_ag (u.2 6) 12 x6).bind fun v2 => if v2 = 0 then (qf_Model_count_b41 (qf_Model_count_b18 n) u x1 x3 x4 x5 x6 x2 (0 : Int32)) else (qf_Model_count_b41 (qf_Model_count_b18 n) u x1 x3 x4 x5 x6 x2 (1 : Int32)))
def qf_Model_count (u : qm_S) (x1 : Int32) : Option (Int32 × qm_S) := xx_nm (va_up u.1 0 (0 : Int32), u.2) fun u1 => xx_nm (0 : Int32) fun v2 => xx_nm (0 : Int32) fun v3 => xx_nm (0 : Int32) fun v4 => xx_nm (0 : Int32) fun v5 => xx_nm (0 : Int32) fun v6 => qf_Model_count_b18 xx_fu u1 x1 v2 v3 v4 v5 v6
set_option maxHeartbeats 4000000 in
set_option maxRecDepth 100000 in
theorem qw_Model_count_b41 {p : Program} {l : Launch} {e : Env} {s : State} {m : MethodId} {args : Array Value} {below : List Frame} {meth : Method} {c : Code} {A : Nat → Prop} {g : xx_G} {r : Int32} {u9 : qm_S} (C : xx_C p s m args meth c kb_Model_count 8 kr_Model (some .int)) (hA : ∀ q, s.heap.size ≤ q → A q) (hK : va_K g.1 xx_cls (qm_T g) s) {rec18 : qm_S → Int32 → Int32 → Int32 → Int32 → Int32 → Int32 → Option (Int32 × qm_S)} (hrec18 : ∀ (u : qm_S) (x1 : Int32) (x2 : Int32) (x3 : Int32) (x4 : Int32) (x5 : Int32) (x6 : Int32) (H : Heap) (locs : List Loc) (ls : Array Slot), rec18 u x1 x2 x3 x4 x5 x6 = some (r, u9) → lv_has ls 8 [(0, .ref (g.2.1 0)), (1, .int x1), (2, .int x2), (3, .int x3), (4, .int x4), (5, .int x5), (6, .int x6)] → va_P g.1 xx_cls (qm_W g u) H → va_D A (qm_W g u) → va_S A s.heap H locs → W p l e (xx_rm 1 23) s m args below meth c H locs 0 0 (MQ below (xx_Q g.1 (qm_T g) (qm_W g) (some (.int r)) u9 A) args s 0 0 A) (F0 m 18 ls [])) : ∀ (u : qm_S) (x1 : Int32) (x3 : Int32) (x4 : Int32) (x5 : Int32) (x6 : Int32) (y0 : Int32) (y1 : Int32) (H : Heap) (locs : List Loc) (ls : Array Slot), qf_Model_count_b41 rec18 u x1 x3 x4 x5 x6 y0 y1 = some (r, u9) → lv_has ls 8 [(0, .ref (g.2.1 0)), (1, .int x1), (3, .int x3), (4, .int x4), (5, .int x5), (6, .int x6)] → va_P g.1 xx_cls (qm_W g u) H → va_D A (qm_W g u) → va_S A s.heap H locs → W p l e (xx_rm 1 23) s m args below meth c H locs 0 0 (MQ below (xx_Q g.1 (qm_T g) (qm_W g) (some (.int r)) u9 A) args s 0 0 A) (F0 m 41 ls [.int y1, .int y0]) := by
  have hx := C.1
  have hb := C.2.1
  have hown := C.2.2.2.1
  have hts := C.2.2.2.2.1
  intro u x1 x3 x4 x5 x6 y0 y1 H locs ls hF hl hP hD hS
  unfold qf_Model_count_b41 at hF
  refine lv_iadd hx hb qd_Model_count_41 ?_
  obtain ⟨v1, ev1, hF⟩ := xx_nm_some hF
  refine xx_topi ev1 ?_
  refine lv_istore_n hx hb qd_Model_count_42 rfl hl (by decide) rfl (fun ls hl => ?_)
  obtain ⟨v2, ev2, hF⟩ := xx_nm_some hF
  refine lv_iinc (k := 6) (v := v2) hx hb qd_Model_count_43 hl rfl (by rw [ev2, xx_lit1]) (by decide) rfl (fun ls hl => ?_)
  refine lv_goto (tgt := 18) hx hb qd_Model_count_46 (by decide) ?_
  exact hrec18 u x1 v1 x3 x4 x5 v2 _ _ _ hF (lv_sub hl [2, 3, 1, 4, 5, 6, 0] rfl) hP hD hS
set_option maxHeartbeats 4000000 in
set_option maxRecDepth 100000 in
theorem qw_Model_count_b110 {p : Program} {l : Launch} {e : Env} {s : State} {m : MethodId} {args : Array Value} {below : List Frame} {meth : Method} {c : Code} {A : Nat → Prop} {g : xx_G} {r : Int32} {u9 : qm_S} (C : xx_C p s m args meth c kb_Model_count 8 kr_Model (some .int)) (hA : ∀ q, s.heap.size ≤ q → A q) (hK : va_K g.1 xx_cls (qm_T g) s) {rec52 : qm_S → Int32 → Int32 → Int32 → Int32 → Int32 → Int32 → Option (Int32 × qm_S)} (hrec52 : ∀ (u : qm_S) (x1 : Int32) (x2 : Int32) (x3 : Int32) (x4 : Int32) (x5 : Int32) (x6 : Int32) (H : Heap) (locs : List Loc) (ls : Array Slot), rec52 u x1 x2 x3 x4 x5 x6 = some (r, u9) → lv_has ls 8 [(0, .ref (g.2.1 0)), (1, .int x1), (2, .int x2), (3, .int x3), (4, .int x4), (5, .int x5), (6, .int x6)] → va_P g.1 xx_cls (qm_W g u) H → va_D A (qm_W g u) → va_S A s.heap H locs → W p l e (xx_rm 1 23) s m args below meth c H locs 0 0 (MQ below (xx_Q g.1 (qm_T g) (qm_W g) (some (.int r)) u9 A) args s 0 0 A) (F0 m 52 ls [])) : ∀ (u : qm_S) (x1 : Int32) (x2 : Int32) (x3 : Int32) (x4 : Int32) (x6 : Int32) (y0 : Int32) (H : Heap) (locs : List Loc) (ls : Array Slot), qf_Model_count_b110 rec52 u x1 x2 x3 x4 x6 y0 = some (r, u9) → lv_has ls 8 [(0, .ref (g.2.1 0)), (1, .int x1), (2, .int x2), (3, .int x3), (4, .int x4), (6, .int x6)] → va_P g.1 xx_cls (qm_W g u) H → va_D A (qm_W g u) → va_S A s.heap H locs → W p l e (xx_rm 1 23) s m args below meth c H locs 0 0 (MQ below (xx_Q g.1 (qm_T g) (qm_W g) (some (.int r)) u9 A) args s 0 0 A) (F0 m 110 ls [.int y0]) := by
  have hx := C.1
  have hb := C.2.1
  have hown := C.2.2.2.1
  have hts := C.2.2.2.2.1
  intro u x1 x2 x3 x4 x6 y0 H locs ls hF hl hP hD hS
  unfold qf_Model_count_b110 at hF
  refine lv_istore hx hb qd_Model_count_110 hl (by decide) rfl (fun ls hl => ?_)
  obtain ⟨v1, ev1, hF⟩ := xx_nm_some hF
  refine lv_iinc (k := 6) (v := v1) hx hb qd_Model_count_112 hl rfl (by rw [ev1, xx_lit1]) (by decide) rfl (fun ls hl => ?_)
  refine lv_goto (tgt := 52) hx hb qd_Model_count_115 (by decide) ?_
  exact hrec52 u x1 x2 x3 x4 y0 v1 _ _ _ hF (lv_sub hl [2, 3, 4, 5, 6, 1, 0] rfl) hP hD hS
set_option maxHeartbeats 4000000 in
set_option maxRecDepth 100000 in
theorem qw_Model_count_b94 {p : Program} {l : Launch} {e : Env} {s : State} {m : MethodId} {args : Array Value} {below : List Frame} {meth : Method} {c : Code} {A : Nat → Prop} {g : xx_G} {r : Int32} {u9 : qm_S} (C : xx_C p s m args meth c kb_Model_count 8 kr_Model (some .int)) (hA : ∀ q, s.heap.size ≤ q → A q) (hK : va_K g.1 xx_cls (qm_T g) s) {rec52 : qm_S → Int32 → Int32 → Int32 → Int32 → Int32 → Int32 → Option (Int32 × qm_S)} (hrec52 : ∀ (u : qm_S) (x1 : Int32) (x2 : Int32) (x3 : Int32) (x4 : Int32) (x5 : Int32) (x6 : Int32) (H : Heap) (locs : List Loc) (ls : Array Slot), rec52 u x1 x2 x3 x4 x5 x6 = some (r, u9) → lv_has ls 8 [(0, .ref (g.2.1 0)), (1, .int x1), (2, .int x2), (3, .int x3), (4, .int x4), (5, .int x5), (6, .int x6)] → va_P g.1 xx_cls (qm_W g u) H → va_D A (qm_W g u) → va_S A s.heap H locs → W p l e (xx_rm 1 23) s m args below meth c H locs 0 0 (MQ below (xx_Q g.1 (qm_T g) (qm_W g) (some (.int r)) u9 A) args s 0 0 A) (F0 m 52 ls [])) : ∀ (u : qm_S) (x1 : Int32) (x2 : Int32) (x3 : Int32) (x5 : Int32) (x6 : Int32) (y0 : Int32) (H : Heap) (locs : List Loc) (ls : Array Slot), qf_Model_count_b94 rec52 u x1 x2 x3 x5 x6 y0 = some (r, u9) → lv_has ls 8 [(0, .ref (g.2.1 0)), (1, .int x1), (2, .int x2), (3, .int x3), (5, .int x5), (6, .int x6)] → va_P g.1 xx_cls (qm_W g u) H → va_D A (qm_W g u) → va_S A s.heap H locs → W p l e (xx_rm 1 23) s m args below meth c H locs 0 0 (MQ below (xx_Q g.1 (qm_T g) (qm_W g) (some (.int r)) u9 A) args s 0 0 A) (F0 m 94 ls [.int y0]) := by
  have hx := C.1
  have hb := C.2.1
  have hown := C.2.2.2.1
  have hts := C.2.2.2.2.1
  intro u x1 x2 x3 x5 x6 y0 H locs ls hF hl hP hD hS
  unfold qf_Model_count_b94 at hF
  refine lv_istore hx hb qd_Model_count_94 hl (by decide) rfl (fun ls hl => ?_)
  refine lv_iload hx hb qd_Model_count_96 (lv_at hl 0 rfl) ?_
  refine lv_iload hx hb qd_Model_count_98 (lv_at hl 5 rfl) ?_
  refine lv_icmp_le (tgt := 108) hx hb qd_Model_count_100 (by decide) (fun hc => ?_) (fun hc => ?_)
  · have hF := xx_ip hc hF
    refine lv_iload hx hb qd_Model_count_108 (lv_at hl 5 rfl) ?_
    exact qw_Model_count_b110 C hA hK hrec52  u x1 x2 x3 y0 x6 x5 _ _ _ hF (lv_sub hl [1, 2, 3, 4, 0, 6] rfl) hP hD hS
  · have hF := xx_in' hc hF
    refine lv_iload hx hb qd_Model_count_103 (lv_at hl 0 rfl) ?_
    refine lv_goto (tgt := 110) hx hb qd_Model_count_105 (by decide) ?_
    exact qw_Model_count_b110 C hA hK hrec52  u x1 x2 x3 y0 x6 y0 _ _ _ hF (lv_sub hl [1, 2, 3, 4, 0, 6] rfl) hP hD hS
set_option maxHeartbeats 4000000 in
set_option maxRecDepth 100000 in
theorem qw_Model_count_b79 {p : Program} {l : Launch} {e : Env} {s : State} {m : MethodId} {args : Array Value} {below : List Frame} {meth : Method} {c : Code} {A : Nat → Prop} {g : xx_G} {r : Int32} {u9 : qm_S} (C : xx_C p s m args meth c kb_Model_count 8 kr_Model (some .int)) (hA : ∀ q, s.heap.size ≤ q → A q) (hK : va_K g.1 xx_cls (qm_T g) s) {rec52 : qm_S → Int32 → Int32 → Int32 → Int32 → Int32 → Int32 → Option (Int32 × qm_S)} (hrec52 : ∀ (u : qm_S) (x1 : Int32) (x2 : Int32) (x3 : Int32) (x4 : Int32) (x5 : Int32) (x6 : Int32) (H : Heap) (locs : List Loc) (ls : Array Slot), rec52 u x1 x2 x3 x4 x5 x6 = some (r, u9) → lv_has ls 8 [(0, .ref (g.2.1 0)), (1, .int x1), (2, .int x2), (3, .int x3), (4, .int x4), (5, .int x5), (6, .int x6)] → va_P g.1 xx_cls (qm_W g u) H → va_D A (qm_W g u) → va_S A s.heap H locs → W p l e (xx_rm 1 23) s m args below meth c H locs 0 0 (MQ below (xx_Q g.1 (qm_T g) (qm_W g) (some (.int r)) u9 A) args s 0 0 A) (F0 m 52 ls [])) : ∀ (u : qm_S) (x1 : Int32) (x2 : Int32) (x4 : Int32) (x5 : Int32) (x6 : Int32) (x7 : Int32) (y0 : Int32) (y1 : Int32) (H : Heap) (locs : List Loc) (ls : Array Slot), qf_Model_count_b79 rec52 u x1 x2 x4 x5 x6 x7 y0 y1 = some (r, u9) → lv_has ls 8 [(0, .ref (g.2.1 0)), (1, .int x1), (2, .int x2), (4, .int x4), (5, .int x5), (6, .int x6), (7, .int x7)] → va_P g.1 xx_cls (qm_W g u) H → va_D A (qm_W g u) → va_S A s.heap H locs → W p l e (xx_rm 1 23) s m args below meth c H locs 0 0 (MQ below (xx_Q g.1 (qm_T g) (qm_W g) (some (.int r)) u9 A) args s 0 0 A) (F0 m 79 ls [.int y1, .int y0]) := by
  have hx := C.1
  have hb := C.2.1
  have hown := C.2.2.2.1
  have hts := C.2.2.2.2.1
  intro u x1 x2 x4 x5 x6 x7 y0 y1 H locs ls hF hl hP hD hS
  unfold qf_Model_count_b79 at hF
  refine lv_iadd hx hb qd_Model_count_79 ?_
  obtain ⟨v1, ev1, hF⟩ := xx_nm_some hF
  refine xx_topi ev1 ?_
  refine lv_istore_n hx hb qd_Model_count_80 rfl hl (by decide) rfl (fun ls hl => ?_)
  refine lv_iload hx hb qd_Model_count_81 (lv_at hl 7 rfl) ?_
  refine lv_if_eq (tgt := 93) hx hb qd_Model_count_83 (by decide) (fun hc => ?_) (fun hc => ?_)
  · have hF := xx_ip hc hF
    refine lv_iconst (v := (0 : Int32)) hx hb qd_Model_count_93 (by decide) ?_
    exact qw_Model_count_b94 C hA hK hrec52  u x1 x2 v1 x5 x6 (0 : Int32) _ _ _ hF (lv_sub hl [1, 2, 3, 0, 5, 6] rfl) hP hD hS
  · have hF := xx_in' hc hF
    refine lv_iload hx hb qd_Model_count_86 (lv_at hl 4 rfl) ?_
    refine lv_iconst (v := (1 : Int32)) hx hb qd_Model_count_88 (by decide) ?_
    refine lv_iadd hx hb qd_Model_count_89 ?_
    refine lv_goto (tgt := 94) hx hb qd_Model_count_90 (by decide) ?_
    exact qw_Model_count_b94 C hA hK hrec52  u x1 x2 v1 x5 x6 (x4 + (1 : Int32)) _ _ _ hF (lv_sub hl [1, 2, 3, 0, 5, 6] rfl) hP hD hS
set_option maxHeartbeats 4000000 in
set_option maxRecDepth 100000 in
theorem qw_Model_count_b52 {p : Program} {l : Launch} {e : Env} {s : State} {m : MethodId} {args : Array Value} {below : List Frame} {meth : Method} {c : Code} {A : Nat → Prop} {g : xx_G} {r : Int32} {u9 : qm_S} (C : xx_C p s m args meth c kb_Model_count 8 kr_Model (some .int)) (hA : ∀ q, s.heap.size ≤ q → A q) (hK : va_K g.1 xx_cls (qm_T g) s) : ∀ (n : Nat), ∀ (u : qm_S) (x1 : Int32) (x2 : Int32) (x3 : Int32) (x4 : Int32) (x5 : Int32) (x6 : Int32) (H : Heap) (locs : List Loc) (ls : Array Slot), qf_Model_count_b52 n u x1 x2 x3 x4 x5 x6 = some (r, u9) → lv_has ls 8 [(0, .ref (g.2.1 0)), (1, .int x1), (2, .int x2), (3, .int x3), (4, .int x4), (5, .int x5), (6, .int x6)] → va_P g.1 xx_cls (qm_W g u) H → va_D A (qm_W g u) → va_S A s.heap H locs → W p l e (xx_rm 1 23) s m args below meth c H locs 0 0 (MQ below (xx_Q g.1 (qm_T g) (qm_W g) (some (.int r)) u9 A) args s 0 0 A) (F0 m 52 ls []) := by
  have hx := C.1
  have hb := C.2.1
  have hown := C.2.2.2.1
  have hts := C.2.2.2.2.1
  intro n
  induction n with
  | zero =>
    intro u x1 x2 x3 x4 x5 x6 H locs ls hF
    rw [qf_Model_count_b52] at hF
    cases hF
  | succ n ih =>
    intro u x1 x2 x3 x4 x5 x6 H locs ls hF hl hP hD hS
    rw [qf_Model_count_b52] at hF
    refine lv_iload hx hb qd_Model_count_52 (lv_at hl 6 rfl) ?_
    refine lv_sipush (v := (208 : Int32)) hx hb qd_Model_count_54 (by decide) ?_
    refine lv_icmp_ge (tgt := 118) hx hb qd_Model_count_57 (by decide) (fun hc => ?_) (fun hc => ?_)
    · have hF := xx_ip hc hF
      refine lv_iload_n hx hb qd_Model_count_118 rfl (lv_at hl 1 rfl) ?_
      by_cases hs0 : x1 = (0 : Int32)
      · have hF := xx_ip hs0 hF
        refine lv_tableIn (off := 33) (tgt := 152) hx hb qd_Model_count_119 (by rw [hs0]; decide) (by rw [hs0]; decide) (by rw [hs0]; rfl) (by decide) ?_
        refine lv_iload_n hx hb qd_Model_count_152 rfl (lv_at hl 2 rfl) ?_
        exact xx_iret C hF hK hP hD hS qd_Model_count_153
      · have hF := xx_in' hs0 hF
        by_cases hs1 : x1 = (1 : Int32)
        · have hF := xx_ip hs1 hF
          refine lv_tableIn (off := 35) (tgt := 154) hx hb qd_Model_count_119 (by rw [hs1]; decide) (by rw [hs1]; decide) (by rw [hs1]; rfl) (by decide) ?_
          refine lv_aload_n hx hb qd_Model_count_154 rfl (lv_at hl 0 rfl) ?_
          refine xx_get C ki_Model hK hP 0 rfl rfl 3 (by decide) kw_876 rfl rfl qd_Model_count_155 ?_
          exact xx_iret C hF hK hP hD hS qd_Model_count_158
        · have hF := xx_in' hs1 hF
          by_cases hs2 : x1 = (2 : Int32)
          · have hF := xx_ip hs2 hF
            refine lv_tableIn (off := 40) (tgt := 159) hx hb qd_Model_count_119 (by rw [hs2]; decide) (by rw [hs2]; decide) (by rw [hs2]; rfl) (by decide) ?_
            refine lv_iload_n hx hb qd_Model_count_159 rfl (lv_at hl 3 rfl) ?_
            exact xx_iret C hF hK hP hD hS qd_Model_count_160
          · have hF := xx_in' hs2 hF
            by_cases hs3 : x1 = (3 : Int32)
            · have hF := xx_ip hs3 hF
              refine lv_tableIn (off := 42) (tgt := 161) hx hb qd_Model_count_119 (by rw [hs3]; decide) (by rw [hs3]; decide) (by rw [hs3]; rfl) (by decide) ?_
              refine lv_iload hx hb qd_Model_count_161 (lv_at hl 5 rfl) ?_
              exact xx_iret C hF hK hP hD hS qd_Model_count_163
            · have hF := xx_in' hs3 hF
              by_cases hs4 : x1 = (4 : Int32)
              · have hF := xx_ip hs4 hF
                refine lv_tableIn (off := 45) (tgt := 164) hx hb qd_Model_count_119 (by rw [hs4]; decide) (by rw [hs4]; decide) (by rw [hs4]; rfl) (by decide) ?_
                refine lv_aload_n hx hb qd_Model_count_164 rfl (lv_at hl 0 rfl) ?_
                refine xx_get C ki_Model hK hP 0 rfl rfl 15 (by decide) kw_888 rfl rfl qd_Model_count_165 ?_
                exact xx_iret C hF hK hP hD hS qd_Model_count_168
              · have hF := xx_in' hs4 hF
                refine lv_tableOut (tgt := 169) hx hb qd_Model_count_119 (by have h0 := lv_neT (a := 0) hs0 (by decide); have h1 := lv_neT (a := 1) hs1 (by decide); have h2 := lv_neT (a := 2) hs2 (by decide); have h3 := lv_neT (a := 3) hs3 (by decide); have h4 := lv_neT (a := 4) hs4 (by decide); omega) (by decide) ?_
                refine lv_iconst (v := (-1 : Int32)) hx hb qd_Model_count_169 (by decide) ?_
                exact xx_iret C hF hK hP hD hS qd_Model_count_170
    · have hF := xx_in' hc hF
      refine lv_aload_n hx hb qd_Model_count_60 rfl (lv_at hl 0 rfl) ?_
      refine lv_iload hx hb qd_Model_count_61 (lv_at hl 6 rfl) ?_
      obtain ⟨v2, u1, eu1, hF⟩ := xx_b2_some hF
      refine xx_callV (n := 1) (As := [.int x6]) (rest := []) C (qc_Model_isRowFree l g u x6 v2 u1 eu1) ⟨kw_1080, kw_1077, kw_1079, ks_Model_isRowFree, kw_9⟩ ⟨by decide +kernel, by decide +kernel, by decide +kernel⟩ rfl ⟨Nat.le_of_ble_eq_true rfl, Nat.le_of_ble_eq_true rfl⟩ 0 rfl rfl hl.1 rfl (Nat.le_of_ble_eq_true rfl) hA hK hP hD hS ⟨Nat.le_refl _, Nat.le_refl _⟩ rfl rfl rfl qd_Model_count_63 (fun H locs hP hD hS => ?_)
      refine lv_istore hx hb qd_Model_count_66 hl (by decide) rfl (fun ls hl => ?_)
      refine lv_iload_n hx hb qd_Model_count_68 rfl (lv_at hl 4 rfl) ?_
      refine lv_iload hx hb qd_Model_count_69 (lv_at hl 0 rfl) ?_
      refine lv_if_eq (tgt := 78) hx hb qd_Model_count_71 (by decide) (fun hc => ?_) (fun hc => ?_)
      · have hF := xx_ip hc hF
        refine lv_iconst (v := (0 : Int32)) hx hb qd_Model_count_78 (by decide) ?_
        exact qw_Model_count_b79 C hA hK ih  u1 x1 x2 x4 x5 x6 v2 x3 (0 : Int32) _ _ _ hF (lv_sub hl [1, 2, 3, 5, 6, 7, 0] rfl) hP hD hS
      · have hF := xx_in' hc hF
        refine lv_iconst (v := (1 : Int32)) hx hb qd_Model_count_74 (by decide) ?_
        refine lv_goto (tgt := 79) hx hb qd_Model_count_75 (by decide) ?_
        exact qw_Model_count_b79 C hA hK ih  u1 x1 x2 x4 x5 x6 v2 x3 (1 : Int32) _ _ _ hF (lv_sub hl [1, 2, 3, 5, 6, 7, 0] rfl) hP hD hS
set_option maxHeartbeats 4000000 in
set_option maxRecDepth 100000 in
theorem qw_Model_count_b18 {p : Program} {l : Launch} {e : Env} {s : State} {m : MethodId} {args : Array Value} {below : List Frame} {meth : Method} {c : Code} {A : Nat → Prop} {g : xx_G} {r : Int32} {u9 : qm_S} (C : xx_C p s m args meth c kb_Model_count 8 kr_Model (some .int)) (hA : ∀ q, s.heap.size ≤ q → A q) (hK : va_K g.1 xx_cls (qm_T g) s) : ∀ (n : Nat), ∀ (u : qm_S) (x1 : Int32) (x2 : Int32) (x3 : Int32) (x4 : Int32) (x5 : Int32) (x6 : Int32) (H : Heap) (locs : List Loc) (ls : Array Slot), qf_Model_count_b18 n u x1 x2 x3 x4 x5 x6 = some (r, u9) → lv_has ls 8 [(0, .ref (g.2.1 0)), (1, .int x1), (2, .int x2), (3, .int x3), (4, .int x4), (5, .int x5), (6, .int x6)] → va_P g.1 xx_cls (qm_W g u) H → va_D A (qm_W g u) → va_S A s.heap H locs → W p l e (xx_rm 1 23) s m args below meth c H locs 0 0 (MQ below (xx_Q g.1 (qm_T g) (qm_W g) (some (.int r)) u9 A) args s 0 0 A) (F0 m 18 ls []) := by
  have hx := C.1
  have hb := C.2.1
  have hown := C.2.2.2.1
  have hts := C.2.2.2.2.1
  intro n
  induction n with
  | zero =>
    intro u x1 x2 x3 x4 x5 x6 H locs ls hF
    rw [qf_Model_count_b18] at hF
    cases hF
  | succ n ih =>
    intro u x1 x2 x3 x4 x5 x6 H locs ls hF hl hP hD hS
    rw [qf_Model_count_b18] at hF
    refine lv_iload hx hb qd_Model_count_18 (lv_at hl 6 rfl) ?_
    refine lv_bipush (v := (12 : Int32)) hx hb qd_Model_count_20 (by decide) ?_
    refine lv_icmp_ge (tgt := 49) hx hb qd_Model_count_22 (by decide) (fun hc => ?_) (fun hc => ?_)
    · have hF := xx_ip hc hF
      refine lv_iconst (v := (0 : Int32)) hx hb qd_Model_count_49 (by decide) ?_
      obtain ⟨v1, ev1, hF⟩ := xx_nm_some hF
      refine xx_topi ev1 ?_
      refine lv_istore hx hb qd_Model_count_50 hl (by decide) rfl (fun ls hl => ?_)
      exact qw_Model_count_b52 C hA hK xx_fu u x1 x2 x3 x4 x5 v1 _ _ _ hF (lv_sub hl [1, 2, 3, 4, 5, 6, 0] rfl) hP hD hS
    · have hF := xx_in' hc hF
      refine lv_iload_n hx hb qd_Model_count_25 rfl (lv_at hl 2 rfl) ?_
      refine lv_aload_n hx hb qd_Model_count_26 rfl (lv_at hl 0 rfl) ?_
      refine xx_get C ki_Model hK hP 0 rfl rfl 8 (by decide) kw_881 rfl rfl qd_Model_count_27 ?_
      refine lv_iload hx hb qd_Model_count_30 (lv_at hl 6 rfl) ?_
      obtain ⟨v2, ev2, hF⟩ := xx_ob hF
      refine xx_zald C hK hP 6 1 rfl rfl ev2 qd_Model_count_32 ?_
      refine lv_if_eq (tgt := 40) hx hb qd_Model_count_33 (by decide) (fun hc => ?_) (fun hc => ?_)
      · have hF := xx_ip hc hF
        refine lv_iconst (v := (0 : Int32)) hx hb qd_Model_count_40 (by decide) ?_
        exact qw_Model_count_b41 C hA hK ih  u x1 x3 x4 x5 x6 x2 (0 : Int32) _ _ _ hF (lv_sub hl [0, 1, 3, 4, 5, 6] rfl) hP hD hS
      · have hF := xx_in' hc hF
        refine lv_iconst (v := (1 : Int32)) hx hb qd_Model_count_36 (by decide) ?_
        refine lv_goto (tgt := 41) hx hb qd_Model_count_37 (by decide) ?_
        exact qw_Model_count_b41 C hA hK ih  u x1 x3 x4 x5 x6 x2 (1 : Int32) _ _ _ hF (lv_sub hl [0, 1, 3, 4, 5, 6] rfl) hP hD hS
set_option maxHeartbeats 4000000 in
set_option maxRecDepth 100000 in
theorem qc_Model_count (l : Launch) (g : xx_G) (u : qm_S) (x1 : Int32) (r : Int32) (u9 : qm_S) (hF : qf_Model_count u x1 = some (r, u9)) : xx_M l g.1 (qm_T g) (qm_W g) ky_Model_count kb_Model_count 8 (some .int) (xx_rm 1 23) [.ref (g.2.1 0), .int x1] u (some (.int r)) u9 := by
  refine xx_body (by decide) (Nat.le_of_ble_eq_true rfl) ?_
  intro p e s m args below meth c A ls C hin hK hl hA hP hD hS
  have hx := C.1
  have hb := C.2.1
  have hown := C.2.2.2.1
  have hts := C.2.2.2.2.1
  have hl : lv_has ls 8 [(0, .ref (g.2.1 0)), (1, .int x1)] := hl
  unfold qf_Model_count at hF
  refine lv_aload_n hx hb qd_Model_count_0 rfl (lv_at hl 0 rfl) ?_
  refine lv_iconst (v := (0 : Int32)) hx hb qd_Model_count_1 (by decide) ?_
  obtain ⟨u1, eu1, hF⟩ := xx_nm_some hF
  refine xx_put (ws1 := qm_W g u1) C ki_Model kt_Model ko_Model kn_Model hK hP hD hS 0 rfl rfl 0 (by decide) kw_873 rfl rfl rfl rfl (Nat.le_of_ble_eq_true rfl) (by rw [eu1]; rfl) qd_Model_count_2 (fun H locs hP hD hS => ?_)
  refine lv_iconst (v := (0 : Int32)) hx hb qd_Model_count_5 (by decide) ?_
  obtain ⟨v2, ev2, hF⟩ := xx_nm_some hF
  refine xx_topi ev2 ?_
  refine lv_istore_n hx hb qd_Model_count_6 rfl hl (by decide) rfl (fun ls hl => ?_)
  refine lv_iconst (v := (0 : Int32)) hx hb qd_Model_count_7 (by decide) ?_
  obtain ⟨v3, ev3, hF⟩ := xx_nm_some hF
  refine xx_topi ev3 ?_
  refine lv_istore_n hx hb qd_Model_count_8 rfl hl (by decide) rfl (fun ls hl => ?_)
  refine lv_iconst (v := (0 : Int32)) hx hb qd_Model_count_9 (by decide) ?_
  obtain ⟨v4, ev4, hF⟩ := xx_nm_some hF
  refine xx_topi ev4 ?_
  refine lv_istore hx hb qd_Model_count_10 hl (by decide) rfl (fun ls hl => ?_)
  refine lv_iconst (v := (0 : Int32)) hx hb qd_Model_count_12 (by decide) ?_
  obtain ⟨v5, ev5, hF⟩ := xx_nm_some hF
  refine xx_topi ev5 ?_
  refine lv_istore hx hb qd_Model_count_13 hl (by decide) rfl (fun ls hl => ?_)
  refine lv_iconst (v := (0 : Int32)) hx hb qd_Model_count_15 (by decide) ?_
  obtain ⟨v6, ev6, hF⟩ := xx_nm_some hF
  refine xx_topi ev6 ?_
  refine lv_istore hx hb qd_Model_count_16 hl (by decide) rfl (fun ls hl => ?_)
  exact qw_Model_count_b18 C hA hK xx_fu u1 x1 v2 v3 v4 v5 v6 _ _ _ hF (lv_sub hl [5, 6, 4, 3, 2, 1, 0] rfl) hP hD hS
