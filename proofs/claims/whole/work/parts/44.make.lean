/-! words for what must hold behind a method -/
def xw_n {α : Type} (x : α) (f : α → Prop) : Prop := f x
theorem xw_n_some {α : Type} {x : α} {f : α → Prop} (h : xw_n x f) : ∃ y, y = x ∧ f y := ⟨x, rfl, h⟩
def xw_b {α : Type} (o : Option α) (f : α → Prop) : Prop := ∃ a, o = some a ∧ f a
def xw_2 {α β : Type} (o : Option (α × β)) (f : α → β → Prop) : Prop := ∃ a b, o = some (a, b) ∧ f a b
def xw_a (c p : Prop) : Prop := c ∧ p
def xw_q (q : Option Nat) (f : Nat → Prop) : Prop := ∃ a, q = some a ∧ f a
def zz_wn (u : zz_S) (f : Nat → Prop) : Prop := ∀ q, q ∉ u.2.2.2.1.1 → f q
def zz_wN (u : zz_S) (f : Nat → Prop) : Prop := ∀ q, q ∉ u.2.2.2.2.1 → f q
def xw_cq (P : (Option Value → zz_S → Prop) → Prop) (f : Option Nat → zz_S → Prop) : Prop := P (fun rv u1 => ∃ r, rv = some (va_rf r) ∧ f r u1)
def xw_cv (P : (Option Value → zz_S → Prop) → Prop) (f : zz_S → Prop) : Prop := P (fun rv u1 => rv = none ∧ f u1)
theorem xw_cq_e {P : (Option Value → zz_S → Prop) → Prop} {f : Option Nat → zz_S → Prop} (h : xw_cq P f) : P (fun rv u1 => ∃ r, rv = some (va_rf r) ∧ f r u1) := h
theorem xw_cv_e {P : (Option Value → zz_S → Prop) → Prop} {f : zz_S → Prop} (h : xw_cv P f) : P (fun rv u1 => rv = none ∧ f u1) := h
abbrev xw_names : List String := ["java/lang/RuntimeException", "java/lang/Exception"]
theorem xw_cast {args : Array Value} {s : State} {X : String} {n : Nat} (h : (Cond.instantiable X n).before args s = true) : (Cond.castable X X).before args s = true := by
  obtain ⟨cC, hC⟩ := classAt_of h
  have h1 := va_assign hC
  simp [Cond.before, Cond.holds, Cond.value, hC.1, h1]
theorem xw_gd {w : Cond} (h : (w.onTables && w.keeps) = true) : goodWord w = true := by
  cases w <;> first | exact h | rfl
theorem xw_pay {args : Array Value} {s : State} {ic : Nat} {own cls : String} {names : List String} (hts : ∀ w ∈ xx_tb, w.before args s = true) (hZ : xw_Z s) (hi : (Cond.instantiable cls 6).before args s = true) (h : ∀ w ∈ Bundle.ownAtoms0 own ic cls names, w ∈ xw_zs ∨ w = .castable cls cls ∨ (∃ x ∈ xw_ds, w = .declares x) ∨ (w ∈ lw_tbl ∧ (w.onTables && w.keeps) = true)) : ∀ w ∈ Bundle.ownAtoms0 own ic cls names, w ∈ xw_zs ∨ (w.onTables = true ∧ w.before args s = true) := by
  intro w hw
  rcases h w hw with h1 | h1 | ⟨x, hx, h1⟩ | h1
  · exact Or.inl h1
  · rw [h1]; exact Or.inr ⟨rfl, xw_cast hi⟩
  · rw [h1]; exact Or.inr ⟨rfl, (hZ.2.2.1 x hx).use rfl⟩
  · have h3 := h1.2
    rw [Bool.and_eq_true] at h3
    exact Or.inr ⟨h3.1, hts w (xx_in h1.1 (xw_gd h1.2))⟩
theorem kd_Symbol : ∀ j, j < 4 → defaultValue (kt_Symbol j) = vp_V [.int 0, .int 0, .int 0, .null] j := by
  intro j hj
  match j, hj with
  | 0, _ => rfl
  | 1, _ => rfl
  | 2, _ => rfl
  | 3, _ => rfl
  | n + 4, h => exact absurd h (by omega)
theorem kd_LoadedModule : ∀ j, j < 10 → defaultValue (kt_LoadedModule j) = vp_V [.int 0, .int 0, .int 0, .int 0, .int 0, .int 0, .int 0, .int 0, .null, .int 0] j := by
  intro j hj
  match j, hj with
  | 0, _ => rfl
  | 1, _ => rfl
  | 2, _ => rfl
  | 3, _ => rfl
  | 4, _ => rfl
  | 5, _ => rfl
  | 6, _ => rfl
  | 7, _ => rfl
  | 8, _ => rfl
  | 9, _ => rfl
  | n + 10, h => exact absurd h (by omega)
theorem kw_461 : Cond.methodLink "ModuleLoader$Symbol" 1 Lib.objectInit ∈ xx_tb := xx_in (List.mem_append_right _ (List.mem_of_getElem? (i := 461) (by decide +kernel))) (by decide +kernel)
theorem kw_27 : Cond.instanceMethod Lib.objectInit ∈ xx_tb := xx_in (List.mem_append_right _ (List.mem_of_getElem? (i := 27) (by decide +kernel))) (by decide +kernel)
set_option maxRecDepth 100000 in
theorem kw_28 : Cond.code Lib.objectInit ⟨#[0xb1]⟩ 1 none ∈ xx_tb := xx_in (List.mem_append_right _ (List.mem_of_getElem? (i := 28) (by rfl))) (by decide +kernel)
theorem kw_462 : Cond.fieldLink "ModuleLoader$Symbol" 7 "ModuleLoader$Symbol" "name" "I" ∈ xx_tb := xx_in (List.mem_append_right _ (List.mem_of_getElem? (i := 462) (by decide +kernel))) (by decide +kernel)
theorem kw_464 : Cond.fieldLink "ModuleLoader$Symbol" 13 "ModuleLoader$Symbol" "check" "I" ∈ xx_tb := xx_in (List.mem_append_right _ (List.mem_of_getElem? (i := 464) (by decide +kernel))) (by decide +kernel)
theorem kw_466 : Cond.fieldLink "ModuleLoader$Symbol" 16 "ModuleLoader$Symbol" "address" "I" ∈ xx_tb := xx_in (List.mem_append_right _ (List.mem_of_getElem? (i := 466) (by decide +kernel))) (by decide +kernel)
theorem kw_468 : Cond.fieldLink "ModuleLoader$Symbol" 19 "ModuleLoader$Symbol" "owner" "LModuleLoader$LoadedModule;" ∈ xx_tb := xx_in (List.mem_append_right _ (List.mem_of_getElem? (i := 468) (by decide +kernel))) (by decide +kernel)
theorem zd_Symbol_init_0 : decode kb_Symbol_init 0 = .ok (.aload_n 0, 1) := by decide +kernel
theorem zd_Symbol_init_1 : decode kb_Symbol_init 1 = .ok (.invokespecial 1, 3) := by decide +kernel
theorem zd_Symbol_init_4 : decode kb_Symbol_init 4 = .ok (.aload_n 0, 1) := by decide +kernel
theorem zd_Symbol_init_5 : decode kb_Symbol_init 5 = .ok (.iload_n 1, 1) := by decide +kernel
theorem zd_Symbol_init_6 : decode kb_Symbol_init 6 = .ok (.putfield 7, 3) := by decide +kernel
theorem zd_Symbol_init_9 : decode kb_Symbol_init 9 = .ok (.aload_n 0, 1) := by decide +kernel
theorem zd_Symbol_init_10 : decode kb_Symbol_init 10 = .ok (.iload_n 2, 1) := by decide +kernel
theorem zd_Symbol_init_11 : decode kb_Symbol_init 11 = .ok (.putfield 13, 3) := by decide +kernel
theorem zd_Symbol_init_14 : decode kb_Symbol_init 14 = .ok (.aload_n 0, 1) := by decide +kernel
theorem zd_Symbol_init_15 : decode kb_Symbol_init 15 = .ok (.iload_n 3, 1) := by decide +kernel
theorem zd_Symbol_init_16 : decode kb_Symbol_init 16 = .ok (.putfield 16, 3) := by decide +kernel
theorem zd_Symbol_init_19 : decode kb_Symbol_init 19 = .ok (.aload_n 0, 1) := by decide +kernel
theorem zd_Symbol_init_20 : decode kb_Symbol_init 20 = .ok (.aload 4, 2) := by decide +kernel
theorem zd_Symbol_init_22 : decode kb_Symbol_init 22 = .ok (.putfield 19, 3) := by decide +kernel
theorem zd_Symbol_init_25 : decode kb_Symbol_init 25 = .ok (.return_, 1) := by decide +kernel
def zf_Symbol_init (u : zz_S) (x0 : Nat) (x1 : Int32) (x2 : Int32) (x3 : Int32) (x4 : Option Nat) : Option (zz_S) := (zz_pw u x0 7 0 (.int x1)).bind fun u1 => (zz_pw u1 x0 7 1 (.int x2)).bind fun u2 => (zz_pw u2 x0 7 2 (.int x3)).bind fun u3 => (zz_pw u3 x0 7 3 ((va_rf x4))).bind fun u4 => some u4
set_option maxHeartbeats 4000000 in
set_option maxRecDepth 100000 in
theorem zc_Symbol_init (l : Launch) (g : xx_G) (u : zz_S) (x0 : Nat) (x1 : Int32) (x2 : Int32) (x3 : Int32) (x4 : Option Nat) (u9 : zz_S) (hF : zf_Symbol_init u x0 x1 x2 x3 x4 = some u9) : xx_M l g.1 (zz_T g) (zz_W g) ky_Symbol_init kb_Symbol_init 5 none (xx_rm 1 20) [.ref x0, .int x1, .int x2, .int x3, (va_rf x4)] u none u9 := by
  refine xx_body (by decide) (by simp [lg_sl, xx_rfc, xx_ic, xx_rc]) ?_
  intro p e s m args below meth c A ls C hin hK hl hA hP hD hS
  have hx := C.1
  have hb := C.2.1
  have hown := C.2.2.2.1
  have hts := C.2.2.2.2.1
  have hl : lv_has ls 5 [(0, .ref x0), (1, .int x1), (2, .int x2), (3, .int x3), (4, (va_rf x4))] := by simpa [lv_args, xx_rfc, xx_ic, xx_rc] using hl
  unfold zf_Symbol_init at hF
  refine lv_aload_n hx hb zd_Symbol_init_0 rfl (lv_at hl 0 rfl) ?_
  refine xx_obj C ⟨kw_461, kw_27, kw_28⟩ hl.1 zd_Symbol_init_1 (Nat.le_of_ble_eq_true rfl) (Nat.le_of_ble_eq_true rfl) ?_
  refine lv_aload_n hx hb zd_Symbol_init_4 rfl (lv_at hl 0 rfl) ?_
  refine lv_iload_n hx hb zd_Symbol_init_5 rfl (lv_at hl 1 rfl) ?_
  obtain ⟨u1, eu1, hF⟩ := xx_ob hF
  refine zz_putF (u := u) (u1 := u1) (ci := 7) C (hin rfl) ki_Symbol kt_Symbol ko_Symbol kn_Symbol hK hP hD hS rfl 0 (by decide) kw_462 rfl rfl rfl rfl eu1 zd_Symbol_init_6 (fun H locs hP hD hS => ?_)
  refine lv_aload_n hx hb zd_Symbol_init_9 rfl (lv_at hl 0 rfl) ?_
  refine lv_iload_n hx hb zd_Symbol_init_10 rfl (lv_at hl 2 rfl) ?_
  obtain ⟨u2, eu2, hF⟩ := xx_ob hF
  refine zz_putF (u := u1) (u1 := u2) (ci := 7) C (hin rfl) ki_Symbol kt_Symbol ko_Symbol kn_Symbol hK hP hD hS rfl 1 (by decide) kw_464 rfl rfl rfl rfl eu2 zd_Symbol_init_11 (fun H locs hP hD hS => ?_)
  refine lv_aload_n hx hb zd_Symbol_init_14 rfl (lv_at hl 0 rfl) ?_
  refine lv_iload_n hx hb zd_Symbol_init_15 rfl (lv_at hl 3 rfl) ?_
  obtain ⟨u3, eu3, hF⟩ := xx_ob hF
  refine zz_putF (u := u2) (u1 := u3) (ci := 7) C (hin rfl) ki_Symbol kt_Symbol ko_Symbol kn_Symbol hK hP hD hS rfl 2 (by decide) kw_466 rfl rfl rfl rfl eu3 zd_Symbol_init_16 (fun H locs hP hD hS => ?_)
  refine lv_aload_n hx hb zd_Symbol_init_19 rfl (lv_at hl 0 rfl) ?_
  refine xx_aldW C zd_Symbol_init_20 (lv_at hl 4 rfl) ?_
  obtain ⟨u4, eu4, hF⟩ := xx_ob hF
  refine zz_putF (u := u3) (u1 := u4) (ci := 7) C (hin rfl) ki_Symbol kt_Symbol ko_Symbol kn_Symbol hK hP hD hS rfl 3 (by decide) kw_468 rfl rfl xx_nrq xx_ftq eu4 zd_Symbol_init_22 (fun H locs hP hD hS => ?_)
  exact xx_vret C hF hK hP hD hS zd_Symbol_init_25
theorem kw_671 : Cond.methodLink "ModuleLoader$LoadedModule" 1 Lib.objectInit ∈ xx_tb := xx_in (List.mem_append_right _ (List.mem_of_getElem? (i := 671) (by decide +kernel))) (by decide +kernel)
theorem kw_674 : Cond.fieldLink "ModuleLoader$LoadedModule" 7 "ModuleLoader$LoadedModule" "name" "I" ∈ xx_tb := xx_in (List.mem_append_right _ (List.mem_of_getElem? (i := 674) (by decide +kernel))) (by decide +kernel)
theorem kw_677 : Cond.fieldLink "ModuleLoader$LoadedModule" 13 "ModuleLoader$LoadedModule" "address" "I" ∈ xx_tb := xx_in (List.mem_append_right _ (List.mem_of_getElem? (i := 677) (by decide +kernel))) (by decide +kernel)
theorem kw_87 : Cond.fieldLink "ModuleLoader$LoadedModule" 16 "ModuleLoader$ModuleFile" "size" "I" ∈ xx_tb := xx_in (List.mem_append_right _ (List.mem_of_getElem? (i := 87) (by decide +kernel))) (by decide +kernel)
theorem kw_680 : Cond.fieldLink "ModuleLoader$LoadedModule" 21 "ModuleLoader$LoadedModule" "size" "I" ∈ xx_tb := xx_in (List.mem_append_right _ (List.mem_of_getElem? (i := 680) (by decide +kernel))) (by decide +kernel)
theorem kw_92 : Cond.fieldLink "ModuleLoader$LoadedModule" 22 "ModuleLoader$ModuleFile" "exports" "I" ∈ xx_tb := xx_in (List.mem_append_right _ (List.mem_of_getElem? (i := 92) (by decide +kernel))) (by decide +kernel)
theorem kw_682 : Cond.fieldLink "ModuleLoader$LoadedModule" 25 "ModuleLoader$LoadedModule" "exports" "I" ∈ xx_tb := xx_in (List.mem_append_right _ (List.mem_of_getElem? (i := 682) (by decide +kernel))) (by decide +kernel)
theorem kw_99 : Cond.fieldLink "ModuleLoader$LoadedModule" 26 "ModuleLoader$ModuleFile" "exit" "I" ∈ xx_tb := xx_in (List.mem_append_right _ (List.mem_of_getElem? (i := 99) (by decide +kernel))) (by decide +kernel)
theorem kw_684 : Cond.fieldLink "ModuleLoader$LoadedModule" 29 "ModuleLoader$LoadedModule" "exit" "I" ∈ xx_tb := xx_in (List.mem_append_right _ (List.mem_of_getElem? (i := 684) (by decide +kernel))) (by decide +kernel)
theorem kw_101 : Cond.fieldLink "ModuleLoader$LoadedModule" 30 "ModuleLoader$ModuleFile" "guarded" "I" ∈ xx_tb := xx_in (List.mem_append_right _ (List.mem_of_getElem? (i := 101) (by decide +kernel))) (by decide +kernel)
theorem kw_686 : Cond.fieldLink "ModuleLoader$LoadedModule" 33 "ModuleLoader$LoadedModule" "guarded" "I" ∈ xx_tb := xx_in (List.mem_append_right _ (List.mem_of_getElem? (i := 686) (by decide +kernel))) (by decide +kernel)
theorem kw_688 : Cond.fieldLink "ModuleLoader$LoadedModule" 36 "ModuleLoader$LoadedModule" "firstRow" "I" ∈ xx_tb := xx_in (List.mem_append_right _ (List.mem_of_getElem? (i := 688) (by decide +kernel))) (by decide +kernel)
theorem kw_672 : Cond.methodLink "ModuleLoader$LoadedModule" 39 ky_ModuleTable_rowsFor ∈ xx_tb := xx_in (List.mem_append_right _ (List.mem_of_getElem? (i := 672) (by decide +kernel))) (by decide +kernel)
theorem kw_690 : Cond.fieldLink "ModuleLoader$LoadedModule" 43 "ModuleLoader$LoadedModule" "rowBehind" "I" ∈ xx_tb := xx_in (List.mem_append_right _ (List.mem_of_getElem? (i := 690) (by decide +kernel))) (by decide +kernel)
theorem kw_673 : Cond.classLink "ModuleLoader$LoadedModule" 8 "ModuleLoader$LoadedModule" ∈ xx_tb := xx_in (List.mem_append_right _ (List.mem_of_getElem? (i := 673) (by decide +kernel))) (by decide +kernel)
theorem zd_LoadedModule_init_0 : decode kb_LoadedModule_init 0 = .ok (.aload_n 0, 1) := by decide +kernel
theorem zd_LoadedModule_init_1 : decode kb_LoadedModule_init 1 = .ok (.invokespecial 1, 3) := by decide +kernel
theorem zd_LoadedModule_init_4 : decode kb_LoadedModule_init 4 = .ok (.aload_n 0, 1) := by decide +kernel
theorem zd_LoadedModule_init_5 : decode kb_LoadedModule_init 5 = .ok (.iload_n 1, 1) := by decide +kernel
theorem zd_LoadedModule_init_6 : decode kb_LoadedModule_init 6 = .ok (.putfield 7, 3) := by decide +kernel
theorem zd_LoadedModule_init_9 : decode kb_LoadedModule_init 9 = .ok (.aload_n 0, 1) := by decide +kernel
theorem zd_LoadedModule_init_10 : decode kb_LoadedModule_init 10 = .ok (.iload_n 2, 1) := by decide +kernel
theorem zd_LoadedModule_init_11 : decode kb_LoadedModule_init 11 = .ok (.putfield 13, 3) := by decide +kernel
theorem zd_LoadedModule_init_14 : decode kb_LoadedModule_init 14 = .ok (.aload_n 0, 1) := by decide +kernel
theorem zd_LoadedModule_init_15 : decode kb_LoadedModule_init 15 = .ok (.aload_n 3, 1) := by decide +kernel
theorem zd_LoadedModule_init_16 : decode kb_LoadedModule_init 16 = .ok (.getfield 16, 3) := by decide +kernel
theorem zd_LoadedModule_init_19 : decode kb_LoadedModule_init 19 = .ok (.putfield 21, 3) := by decide +kernel
theorem zd_LoadedModule_init_22 : decode kb_LoadedModule_init 22 = .ok (.aload_n 0, 1) := by decide +kernel
theorem zd_LoadedModule_init_23 : decode kb_LoadedModule_init 23 = .ok (.aload_n 3, 1) := by decide +kernel
theorem zd_LoadedModule_init_24 : decode kb_LoadedModule_init 24 = .ok (.getfield 22, 3) := by decide +kernel
theorem zd_LoadedModule_init_27 : decode kb_LoadedModule_init 27 = .ok (.putfield 25, 3) := by decide +kernel
theorem zd_LoadedModule_init_30 : decode kb_LoadedModule_init 30 = .ok (.aload_n 0, 1) := by decide +kernel
theorem zd_LoadedModule_init_31 : decode kb_LoadedModule_init 31 = .ok (.aload_n 3, 1) := by decide +kernel
theorem zd_LoadedModule_init_32 : decode kb_LoadedModule_init 32 = .ok (.getfield 26, 3) := by decide +kernel
theorem zd_LoadedModule_init_35 : decode kb_LoadedModule_init 35 = .ok (.putfield 29, 3) := by decide +kernel
theorem zd_LoadedModule_init_38 : decode kb_LoadedModule_init 38 = .ok (.aload_n 0, 1) := by decide +kernel
theorem zd_LoadedModule_init_39 : decode kb_LoadedModule_init 39 = .ok (.aload_n 3, 1) := by decide +kernel
theorem zd_LoadedModule_init_40 : decode kb_LoadedModule_init 40 = .ok (.getfield 30, 3) := by decide +kernel
theorem zd_LoadedModule_init_43 : decode kb_LoadedModule_init 43 = .ok (.putfield 33, 3) := by decide +kernel
theorem zd_LoadedModule_init_46 : decode kb_LoadedModule_init 46 = .ok (.aload_n 0, 1) := by decide +kernel
theorem zd_LoadedModule_init_47 : decode kb_LoadedModule_init 47 = .ok (.iload_n 2, 1) := by decide +kernel
theorem zd_LoadedModule_init_48 : decode kb_LoadedModule_init 48 = .ok (.sipush (512), 3) := by decide +kernel
theorem zd_LoadedModule_init_51 : decode kb_LoadedModule_init 51 = .ok (.isub, 1) := by decide +kernel
theorem zd_LoadedModule_init_52 : decode kb_LoadedModule_init 52 = .ok (.bipush (16), 2) := by decide +kernel
theorem zd_LoadedModule_init_54 : decode kb_LoadedModule_init 54 = .ok (.idiv, 1) := by decide +kernel
theorem zd_LoadedModule_init_55 : decode kb_LoadedModule_init 55 = .ok (.putfield 36, 3) := by decide +kernel
theorem zd_LoadedModule_init_58 : decode kb_LoadedModule_init 58 = .ok (.aload_n 0, 1) := by decide +kernel
theorem zd_LoadedModule_init_59 : decode kb_LoadedModule_init 59 = .ok (.aload_n 0, 1) := by decide +kernel
theorem zd_LoadedModule_init_60 : decode kb_LoadedModule_init 60 = .ok (.getfield 36, 3) := by decide +kernel
theorem zd_LoadedModule_init_63 : decode kb_LoadedModule_init 63 = .ok (.aload_n 3, 1) := by decide +kernel
theorem zd_LoadedModule_init_64 : decode kb_LoadedModule_init 64 = .ok (.getfield 16, 3) := by decide +kernel
theorem zd_LoadedModule_init_67 : decode kb_LoadedModule_init 67 = .ok (.invokestatic 39, 3) := by decide +kernel
theorem zd_LoadedModule_init_70 : decode kb_LoadedModule_init 70 = .ok (.iadd, 1) := by decide +kernel
theorem zd_LoadedModule_init_71 : decode kb_LoadedModule_init 71 = .ok (.putfield 43, 3) := by decide +kernel
theorem zd_LoadedModule_init_74 : decode kb_LoadedModule_init 74 = .ok (.aload_n 0, 1) := by decide +kernel
theorem zd_LoadedModule_init_75 : decode kb_LoadedModule_init 75 = .ok (.bipush (8), 2) := by decide +kernel
theorem zd_LoadedModule_init_77 : decode kb_LoadedModule_init 77 = .ok (.anewarray 8, 3) := by decide +kernel
theorem zd_LoadedModule_init_80 : decode kb_LoadedModule_init 80 = .ok (.putfield 46, 3) := by decide +kernel
theorem zd_LoadedModule_init_83 : decode kb_LoadedModule_init 83 = .ok (.return_, 1) := by decide +kernel
def zp_LoadedModule_init (Po : Option Value → zz_S → Prop) (Px : String → zz_S → Prop) (u : zz_S) (x0 : Nat) (x1 : Int32) (x2 : Int32) : Prop := xw_b (zz_pw u x0 9 0 (.int x1)) fun u1 => xw_b (zz_pw u1 x0 9 1 (.int x2)) fun u2 => xw_n (u2.1 5) fun v3 => xw_b (zz_pw u2 x0 9 2 (.int v3)) fun u4 => xw_n (u4.1 7) fun v5 => xw_b (zz_pw u4 x0 9 3 (.int v5)) fun u6 => xw_n (u6.1 10) fun v7 => xw_b (zz_pw u6 x0 9 4 (.int v7)) fun u8 => xw_n (u8.1 11) fun v9 => xw_b (zz_pw u8 x0 9 5 (.int v9)) fun u10 => xw_n ((x2 - (512 : Int32)) / (16 : Int32)) fun v11 => xw_b (zz_pw u10 x0 9 6 (.int v11)) fun u12 => xw_b (zz_pi u12 x0 9 6) fun v13 => xw_2 (zf_ModuleTable_rowsFor u12 (u12.1 5)) fun v15 u14 => xw_n (v13 + v15) fun v16 => xw_b (zz_pw u14 x0 9 7 (.int v16)) fun u17 => zz_wN u17 fun a18 => xw_n (zz_moreN u17 a18) fun u19 => xw_b (zz_pw u19 x0 9 8 (.ref a18)) fun u20 => Po none u20
set_option maxHeartbeats 4000000 in
set_option maxRecDepth 100000 in
theorem zc_LoadedModule_init (l : Launch) (g : xx_G) (u : zz_S) (x0 : Nat) (x1 : Int32) (x2 : Int32) (Po : Option Value → zz_S → Prop) (Px : String → zz_S → Prop) (hF : zp_LoadedModule_init Po Px u x0 x1 x2) : xw_M l g.1 (zz_T g) (zz_W g) ky_LoadedModule_init kb_LoadedModule_init 4 none (xx_rmc 1 20 1 8) [.ref x0, .int x1, .int x2, .ref (g.2.1 8)] u Po Px := by
  refine xw_body (by decide) (Nat.le_of_ble_eq_true rfl) ?_
  intro p e s m args below meth c A ls C CW hin hK hl hA hP hD hS
  have hx := C.1
  have hb := C.2.1
  have hown := C.2.2.2.1
  have hts := C.2.2.2.2.1
  have hl : lv_has ls 4 [(0, .ref x0), (1, .int x1), (2, .int x2), (3, .ref (g.2.1 8))] := hl
  unfold zp_LoadedModule_init at hF
  refine lv_aload_n hx hb zd_LoadedModule_init_0 rfl (lv_at hl 0 rfl) ?_
  refine xx_obj C ⟨kw_671, kw_27, kw_28⟩ hl.1 zd_LoadedModule_init_1 (Nat.le_of_ble_eq_true rfl) (Nat.le_of_ble_eq_true rfl) ?_
  refine lv_aload_n hx hb zd_LoadedModule_init_4 rfl (lv_at hl 0 rfl) ?_
  refine lv_iload_n hx hb zd_LoadedModule_init_5 rfl (lv_at hl 1 rfl) ?_
  obtain ⟨u1, eu1, hF⟩ := hF
  refine zz_putF (u := u) (u1 := u1) (ci := 9) C (hin rfl) ki_LoadedModule kt_LoadedModule ko_LoadedModule kn_LoadedModule hK hP hD hS rfl 0 (by decide) kw_674 rfl rfl rfl rfl eu1 zd_LoadedModule_init_6 (fun H locs hP hD hS => ?_)
  refine lv_aload_n hx hb zd_LoadedModule_init_9 rfl (lv_at hl 0 rfl) ?_
  refine lv_iload_n hx hb zd_LoadedModule_init_10 rfl (lv_at hl 2 rfl) ?_
  obtain ⟨u2, eu2, hF⟩ := hF
  refine zz_putF (u := u1) (u1 := u2) (ci := 9) C (hin rfl) ki_LoadedModule kt_LoadedModule ko_LoadedModule kn_LoadedModule hK hP hD hS rfl 1 (by decide) kw_677 rfl rfl rfl rfl eu2 zd_LoadedModule_init_11 (fun H locs hP hD hS => ?_)
  refine lv_aload_n hx hb zd_LoadedModule_init_14 rfl (lv_at hl 0 rfl) ?_
  refine lv_aload_n hx hb zd_LoadedModule_init_15 rfl (lv_at hl 3 rfl) ?_
  refine xx_get C ki_ModuleFile hK hP 8 rfl rfl 0 (by decide) kw_87 rfl rfl zd_LoadedModule_init_16 ?_
  obtain ⟨v3, ev3, hF⟩ := xw_n_some hF
  refine xx_topi ev3 ?_
  obtain ⟨u4, eu4, hF⟩ := hF
  refine zz_putF (u := u2) (u1 := u4) (ci := 9) C (hin rfl) ki_LoadedModule kt_LoadedModule ko_LoadedModule kn_LoadedModule hK hP hD hS rfl 2 (by decide) kw_680 rfl rfl rfl rfl eu4 zd_LoadedModule_init_19 (fun H locs hP hD hS => ?_)
  refine lv_aload_n hx hb zd_LoadedModule_init_22 rfl (lv_at hl 0 rfl) ?_
  refine lv_aload_n hx hb zd_LoadedModule_init_23 rfl (lv_at hl 3 rfl) ?_
  refine xx_get C ki_ModuleFile hK hP 8 rfl rfl 2 (by decide) kw_92 rfl rfl zd_LoadedModule_init_24 ?_
  obtain ⟨v5, ev5, hF⟩ := xw_n_some hF
  refine xx_topi ev5 ?_
  obtain ⟨u6, eu6, hF⟩ := hF
  refine zz_putF (u := u4) (u1 := u6) (ci := 9) C (hin rfl) ki_LoadedModule kt_LoadedModule ko_LoadedModule kn_LoadedModule hK hP hD hS rfl 3 (by decide) kw_682 rfl rfl rfl rfl eu6 zd_LoadedModule_init_27 (fun H locs hP hD hS => ?_)
  refine lv_aload_n hx hb zd_LoadedModule_init_30 rfl (lv_at hl 0 rfl) ?_
  refine lv_aload_n hx hb zd_LoadedModule_init_31 rfl (lv_at hl 3 rfl) ?_
  refine xx_get C ki_ModuleFile hK hP 8 rfl rfl 5 (by decide) kw_99 rfl rfl zd_LoadedModule_init_32 ?_
  obtain ⟨v7, ev7, hF⟩ := xw_n_some hF
  refine xx_topi ev7 ?_
  obtain ⟨u8, eu8, hF⟩ := hF
  refine zz_putF (u := u6) (u1 := u8) (ci := 9) C (hin rfl) ki_LoadedModule kt_LoadedModule ko_LoadedModule kn_LoadedModule hK hP hD hS rfl 4 (by decide) kw_684 rfl rfl rfl rfl eu8 zd_LoadedModule_init_35 (fun H locs hP hD hS => ?_)
  refine lv_aload_n hx hb zd_LoadedModule_init_38 rfl (lv_at hl 0 rfl) ?_
  refine lv_aload_n hx hb zd_LoadedModule_init_39 rfl (lv_at hl 3 rfl) ?_
  refine xx_get C ki_ModuleFile hK hP 8 rfl rfl 6 (by decide) kw_101 rfl rfl zd_LoadedModule_init_40 ?_
  obtain ⟨v9, ev9, hF⟩ := xw_n_some hF
  refine xx_topi ev9 ?_
  obtain ⟨u10, eu10, hF⟩ := hF
  refine zz_putF (u := u8) (u1 := u10) (ci := 9) C (hin rfl) ki_LoadedModule kt_LoadedModule ko_LoadedModule kn_LoadedModule hK hP hD hS rfl 5 (by decide) kw_686 rfl rfl rfl rfl eu10 zd_LoadedModule_init_43 (fun H locs hP hD hS => ?_)
  refine lv_aload_n hx hb zd_LoadedModule_init_46 rfl (lv_at hl 0 rfl) ?_
  refine lv_iload_n hx hb zd_LoadedModule_init_47 rfl (lv_at hl 2 rfl) ?_
  refine lv_sipush (v := (512 : Int32)) hx hb zd_LoadedModule_init_48 (by decide) ?_
  refine lv_isub hx hb zd_LoadedModule_init_51 ?_
  refine lv_bipush (v := (16 : Int32)) hx hb zd_LoadedModule_init_52 (by decide) ?_
  refine lv_idiv hx hb zd_LoadedModule_init_54 (by decide) ?_
  obtain ⟨v11, ev11, hF⟩ := xw_n_some hF
  refine xx_topi ev11 ?_
  obtain ⟨u12, eu12, hF⟩ := hF
  refine zz_putF (u := u10) (u1 := u12) (ci := 9) C (hin rfl) ki_LoadedModule kt_LoadedModule ko_LoadedModule kn_LoadedModule hK hP hD hS rfl 6 (by decide) kw_688 rfl rfl rfl rfl eu12 zd_LoadedModule_init_55 (fun H locs hP hD hS => ?_)
  refine lv_aload_n hx hb zd_LoadedModule_init_58 rfl (lv_at hl 0 rfl) ?_
  refine lv_aload_n hx hb zd_LoadedModule_init_59 rfl (lv_at hl 0 rfl) ?_
  obtain ⟨v13, ev13, hF⟩ := hF
  refine zz_get (a := x0) (u := u12) (ci := 9) C ki_LoadedModule hK hP rfl 6 (by decide) kw_688 rfl (zz_pi_some ev13) zd_LoadedModule_init_60 ?_
  refine lv_aload_n hx hb zd_LoadedModule_init_63 rfl (lv_at hl 3 rfl) ?_
  refine xx_get C ki_ModuleFile hK hP 8 rfl rfl 0 (by decide) kw_87 rfl rfl zd_LoadedModule_init_64 ?_
  obtain ⟨v15, u14, eu14, hF⟩ := hF
  refine xx_callS (cells1 := 0) (slots1 := 0) (n := 1) (As := [.int (u12.1 5)]) (rest := [.int v13, .ref x0]) C (zc_ModuleTable_rowsFor l g u12 (u12.1 5) v15 u14 eu14) ⟨kw_609, kw_672, kw_608, kw_7⟩ ⟨by decide +kernel, by decide +kernel, by decide +kernel⟩ rfl ⟨Nat.le_of_ble_eq_true rfl, Nat.le_of_ble_eq_true rfl⟩ hl.1 rfl (Nat.le_of_ble_eq_true rfl) hA hK hP hD hS ⟨by decide, by decide⟩ rfl rfl rfl zd_LoadedModule_init_67 (fun H locs hP hD hS => ?_)
  refine lv_iadd hx hb zd_LoadedModule_init_70 ?_
  obtain ⟨v16, ev16, hF⟩ := xw_n_some hF
  refine xx_topi ev16 ?_
  obtain ⟨u17, eu17, hF⟩ := hF
  refine zz_putF (u := u14) (u1 := u17) (ci := 9) C (hin rfl) ki_LoadedModule kt_LoadedModule ko_LoadedModule kn_LoadedModule hK hP hD hS rfl 7 (by decide) kw_690 rfl rfl rfl rfl eu17 zd_LoadedModule_init_71 (fun H locs hP hD hS => ?_)
  refine lv_aload_n hx hb zd_LoadedModule_init_74 rfl (lv_at hl 0 rfl) ?_
  refine lv_bipush (v := (8 : Int32)) hx hb zd_LoadedModule_init_75 (by decide) ?_
  refine zz_newN (u := u17) (cells1 := 1) (slots1 := 8) C kw_673 CW.2.2.2.2.2.2 hK hP hD hS hA (by decide) (by decide) rfl rfl zd_LoadedModule_init_77 (fun a18 H hq hP hD hS => ?_)
  have hF := hF a18 hq
  obtain ⟨u19, eu19, hF⟩ := xw_n_some hF
  rw [← eu19] at hP hD
  obtain ⟨u20, eu20, hF⟩ := hF
  refine zz_putF (u := u19) (u1 := u20) (ci := 9) C (hin rfl) ki_LoadedModule kt_LoadedModule ko_LoadedModule kn_LoadedModule hK hP hD hS rfl 8 (by decide) kw_692 rfl rfl rfl rfl eu20 zd_LoadedModule_init_80 (fun H locs hP hD hS => ?_)
  exact xw_vret C (by decide) (by decide) hF hK hP hD hS zd_LoadedModule_init_83
