def kr_Arrays : String := "java/util/Arrays"
abbrev kb_Arrays_fill : ByteArray := prog_21_method_103_code
def ky_Arrays_fill : MethodName := ⟨kr_Arrays, "fill", "([II)V"⟩
/-! The class's world: fourteen fixed cells, a pool of objects (Symbols, LoadedModules), a pool of arrays (what a module needs) -/
abbrev zz_S : Type := (Nat → Int32) × (Nat → Nat → Int32) × (Nat → Nat → Option Nat) × (List Nat × (Nat → Nat × List Value)) × (List Nat × (Nat → Nat → Option Nat))
def zz_T (g : xx_G) : List (ClassId × FieldType) := [(g.2.2 0, .int), (g.2.2 1, .boolean), (g.2.2 2, .object "ModuleLoader$Symbol"), (g.2.2 3, .object "ModuleLoader$LoadedModule")]
def zz_X (g : xx_G) (u : zz_S) : va_W := [(g.2.1 0, .inr (1, [.ref (g.2.1 1), .ref (g.2.1 4), .ref (g.2.1 6), .ref (g.2.1 8), .ref (g.2.1 9), .ref (g.2.1 11), .ref (g.2.1 13), .int (u.1 0)])), (g.2.1 1, .inr (2, [.ref (g.2.1 2), .ref (g.2.1 3)])), (g.2.1 2, .inl (g.2.2 0, 1024, .inl (u.2.1 0))), (g.2.1 3, .inl (g.2.2 1, 1024, .inl (u.2.1 1))), (g.2.1 4, .inr (3, [.int (u.1 1), .int (u.1 2), .ref (g.2.1 1), .ref (g.2.1 5), .int (u.1 3)])), (g.2.1 5, .inl (g.2.2 0, 32, .inl (u.2.1 2))), (g.2.1 6, .inr (4, [.ref (g.2.1 7), .int (u.1 4)])), (g.2.1 7, .inl (g.2.2 0, 300, .inl (u.2.1 3))), (g.2.1 8, .inr (5, [.int (u.1 5), .int (u.1 6), .int (u.1 7), .int (u.1 8), .int (u.1 9), .int (u.1 10), .int (u.1 11), .ref (g.2.1 6), .int (u.1 12), .int (u.1 13), .int (u.1 14)])), (g.2.1 9, .inr (6, [.ref (g.2.1 10), .int (u.1 15)])), (g.2.1 10, .inl (g.2.2 2, 40, .inr (.inr (.inr (.inr (u.2.2.1 0)))))), (g.2.1 11, .inr (8, [.ref (g.2.1 12), .int (u.1 16)])), (g.2.1 12, .inl (g.2.2 3, 12, .inr (.inr (.inr (.inr (u.2.2.1 1)))))), (g.2.1 13, .inr (10, [.int (u.1 17), .int (u.1 18), .int (u.1 19), .int (u.1 20), .int (u.1 21)]))]
def zz_Z (g : xx_G) (u : zz_S) : va_W := va_pl u.2.2.2.2.1 (fun a => .inl (g.2.2 3, 8, .inr (.inr (.inr (.inr (u.2.2.2.2.2 a))))))
def zz_W (g : xx_G) (u : zz_S) : va_W := (zz_X g u ++ va_pl u.2.2.2.1.1 (fun a => .inr (u.2.2.2.1.2 a))) ++ zz_Z g u
/-- reads of the pools -/
def zz_ok (u : zz_S) (a ci : Nat) : Option Unit := if a ∈ u.2.2.2.1.1 ∧ (u.2.2.2.1.2 a).1 = ci then some () else none
def zz_pi (u : zz_S) (a ci k : Nat) : Option Int32 := (zz_ok u a ci).bind fun _ => match (u.2.2.2.1.2 a).2[k]? with
  | some (.int x) => some x
  | _ => none
def zz_pq (u : zz_S) (a ci k : Nat) : Option (Option Nat) := (zz_ok u a ci).bind fun _ => match (u.2.2.2.1.2 a).2[k]? with
  | some .null => some none
  | some (.ref b) => some (some b)
  | _ => none
def zz_pr (u : zz_S) (a ci k : Nat) : Option Nat := (zz_ok u a ci).bind fun _ => match (u.2.2.2.1.2 a).2[k]? with
  | some (.ref b) => some b
  | _ => none
/-- a write of a field of an object of the pool -/
def zz_pw (u : zz_S) (a ci k : Nat) (v : Value) : Option zz_S := (zz_ok u a ci).bind fun _ => if k < (u.2.2.2.1.2 a).2.length then some (u.1, u.2.1, u.2.2.1, (u.2.2.2.1.1, va_up u.2.2.2.1.2 a (ci, (u.2.2.2.1.2 a).2.set k v)), u.2.2.2.2) else none
/-- arrays of references: the fixed ones, the pool's -/
def zz_as (u : zz_S) (k n ci : Nat) (i : Int32) (a : Nat) : Option zz_S := (zz_ok u a ci).bind fun _ => (xx_as (u.2.2.1 k) n i (some a)).bind fun f => some (u.1, u.2.1, va_up u.2.2.1 k f, u.2.2.2)
def zz_na (u : zz_S) (b : Nat) (i : Int32) : Option (Option Nat) := if b ∈ u.2.2.2.2.1 then xx_ag (u.2.2.2.2.2 b) 8 i else none
def zz_nl (u : zz_S) (b : Nat) : Option Int32 := if b ∈ u.2.2.2.2.1 then some 8 else none
def zz_ns (u : zz_S) (b : Nat) (i : Int32) (a : Nat) : Option zz_S := if b ∈ u.2.2.2.2.1 then ((zz_ok u a 9).bind fun _ => (xx_as (u.2.2.2.2.2 b) 8 i (some a)).bind fun f => some (u.1, u.2.1, u.2.2.1, u.2.2.2.1, (u.2.2.2.2.1, va_up u.2.2.2.2.2 b f))) else none
theorem zz_ok_some {u : zz_S} {a ci : Nat} {x : Unit} (h : zz_ok u a ci = some x) : a ∈ u.2.2.2.1.1 ∧ (u.2.2.2.1.2 a).1 = ci := by
  unfold zz_ok at h
  split at h
  · assumption
  · cases h
theorem zz_pi_some {u : zz_S} {a ci k : Nat} {x : Int32} (h : zz_pi u a ci k = some x) : (a ∈ u.2.2.2.1.1 ∧ (u.2.2.2.1.2 a).1 = ci) ∧ (u.2.2.2.1.2 a).2[k]? = some (.int x) := by
  obtain ⟨_, h1, h2⟩ := xx_ob h
  refine ⟨zz_ok_some h1, ?_⟩
  split at h2
  · rename_i y e
    rw [e, Option.some.inj h2]
  · cases h2
theorem zz_pq_some {u : zz_S} {a ci k : Nat} {x : Option Nat} (h : zz_pq u a ci k = some x) : (a ∈ u.2.2.2.1.1 ∧ (u.2.2.2.1.2 a).1 = ci) ∧ (u.2.2.2.1.2 a).2[k]? = some (va_rf x) := by
  obtain ⟨_, h1, h2⟩ := xx_ob h
  refine ⟨zz_ok_some h1, ?_⟩
  split at h2
  · rename_i e
    rw [e, ← Option.some.inj h2]; rfl
  · rename_i b e
    rw [e, ← Option.some.inj h2]; rfl
  · cases h2
theorem zz_pr_some {u : zz_S} {a ci k : Nat} {x : Nat} (h : zz_pr u a ci k = some x) : (a ∈ u.2.2.2.1.1 ∧ (u.2.2.2.1.2 a).1 = ci) ∧ (u.2.2.2.1.2 a).2[k]? = some (.ref x) := by
  obtain ⟨_, h1, h2⟩ := xx_ob h
  refine ⟨zz_ok_some h1, ?_⟩
  split at h2
  · rename_i b e
    rw [e, ← Option.some.inj h2]
  · cases h2
theorem zz_at {g : xx_G} {u : zz_S} {a ci : Nat} (h : a ∈ u.2.2.2.1.1 ∧ (u.2.2.2.1.2 a).1 = ci) : ∃ k : Nat, (zz_X g u ++ va_pl u.2.2.2.1.1 (fun a => .inr (u.2.2.2.1.2 a)))[k]? = some (a, .inr (ci, (u.2.2.2.1.2 a).2)) := by
  obtain ⟨k, hk⟩ := va_pl_get (X := zz_X g u) (f := fun a => .inr (u.2.2.2.1.2 a)) h.1
  exact ⟨k, by rw [hk, ← h.2]⟩
theorem zz_atW {g : xx_G} {u : zz_S} {a ci : Nat} (h : a ∈ u.2.2.2.1.1 ∧ (u.2.2.2.1.2 a).1 = ci) : ∃ k : Nat, (zz_W g u)[k]? = some (a, .inr (ci, (u.2.2.2.1.2 a).2)) := by
  obtain ⟨k, hk⟩ := zz_at (g := g) h
  refine ⟨k, ?_⟩
  unfold zz_W
  rw [List.getElem?_append_left (List.getElem?_eq_some_iff.mp hk).1]
  exact hk
theorem xx_rfc {q : Option Nat} : (va_rf q).category = 1 := by cases q <;> rfl
theorem xx_ic {x : Int32} : (Value.int x).category = 1 := rfl
theorem xx_rc {a : Nat} : (Value.ref a).category = 1 := rfl
/-- null or not -/
def xx_nn {β : Type} (q : Option Nat) (f : Nat → Option β) : Option β := match q with
  | none => none
  | some a => f a
theorem xx_nn_some {β : Type} {q : Option Nat} {f : Nat → Option β} {r : β} (h : xx_nn q f = some r) : ∃ a, q = some a ∧ f a = some r := by
  cases q with
  | none => cases h
  | some a => exact ⟨a, rfl, h⟩
def xx_on {β : Type} (q : Option Nat) (x : Option β) (f : Nat → Option β) : Option β := match q with
  | none => x
  | some a => f a
theorem xx_on_n {β : Type} {q : Option Nat} {x : Option β} {f : Nat → Option β} {r : β} (e : q = none) (h : xx_on q x f = some r) : x = some r := by subst e; exact h
theorem xx_on_s {β : Type} {q : Option Nat} {a : Nat} {x : Option β} {f : Nat → Option β} {r : β} (e : q = some a) (h : xx_on q x f = some r) : f a = some r := by subst e; exact h
section XQ
variable {p : Program} {l : Launch} {e : Env} {R : Room} {s : State} {m : MethodId} {args : Array Value} {below : List Frame} {meth : Method} {c : Code} {H : Heap} {locs : List Loc} {cells slots : Nat} {Q : State → Prop}
variable {cc : ByteArray} {nL pc index : Nat} {own : String} {rt : Option FieldType} {ls : Array Slot} {rest st0 : List Value} {A : Nat → Prop}
theorem xx_ald {k : Fin 4} {i : Nat} {q : Option Nat} (C : xx_C p s m args meth c cc nL own rt) (hdg : decode cc pc = .ok (.aload_n k, 1)) (hi : (k : Nat) = i) (hl : ls[i]? = some (.val (va_rf q))) (kk : W p l e R s m args below meth c H locs cells slots Q (F0 m (pc + 1) ls (va_rf q :: rest))) : W p l e R s m args below meth c H locs cells slots Q (F0 m pc ls rest) := by
  cases q with
  | none => exact lv_aload_nN C.1 C.2.1 hdg hi hl kk
  | some a => exact lv_aload_n C.1 C.2.1 hdg hi hl kk
theorem xx_aldW {i : Nat} {q : Option Nat} (C : xx_C p s m args meth c cc nL own rt) (hdg : decode cc pc = .ok (.aload i, 2)) (hl : ls[i]? = some (.val (va_rf q))) (kk : W p l e R s m args below meth c H locs cells slots Q (F0 m (pc + 2) ls (va_rf q :: rest))) : W p l e R s m args below meth c H locs cells slots Q (F0 m pc ls rest) := by
  cases q with
  | none => exact lv_aloadN C.1 C.2.1 hdg hl kk
  | some a => exact lv_aload C.1 C.2.1 hdg hl kk
theorem xx_ast {k : Fin 4} {i : Nat} {q : Option Nat} {lv lv' : List (Nat × Value)} (C : xx_C p s m args meth c cc nL own rt) (hdg : decode cc pc = .ok (.astore_n k, 1)) (hi : (k : Nat) = i) (h : lv_has ls nL lv) (hn : i < nL) (hl : (i, va_rf q) :: lv.filter (fun q => !(q.1 == i) && !(q.1 + 1 == i && q.2.category == 2)) = lv') (kk : ∀ ls' : Array Slot, lv_has ls' nL lv' → W p l e R s m args below meth c H locs cells slots Q (F0 m (pc + 1) ls' rest)) : W p l e R s m args below meth c H locs cells slots Q (F0 m pc ls (va_rf q :: rest)) := by
  cases q with
  | none => exact lv_astore_nN C.1 C.2.1 hdg hi h hn hl kk
  | some a => exact lv_astore_n C.1 C.2.1 hdg hi h hn hl kk
theorem xx_astW {i : Nat} {q : Option Nat} {lv lv' : List (Nat × Value)} (C : xx_C p s m args meth c cc nL own rt) (hdg : decode cc pc = .ok (.astore i, 2)) (h : lv_has ls nL lv) (hn : i < nL) (hl : (i, va_rf q) :: lv.filter (fun q => !(q.1 == i) && !(q.1 + 1 == i && q.2.category == 2)) = lv') (kk : ∀ ls' : Array Slot, lv_has ls' nL lv' → W p l e R s m args below meth c H locs cells slots Q (F0 m (pc + 2) ls' rest)) : W p l e R s m args below meth c H locs cells slots Q (F0 m pc ls (va_rf q :: rest)) := by
  cases q with
  | none => exact lv_astoreN C.1 C.2.1 hdg h hn hl kk
  | some a => exact lv_astore C.1 C.2.1 hdg h hn hl kk
theorem xx_ifnull {q : Option Nat} {off : Int} {tgt : Nat} (C : xx_C p s m args meth c cc nL own rt) (hdg : decode cc pc = .ok (.ifnull off, 3)) (ht : (pc : Int) + off = (tgt : Int)) (kn : q = none → W p l e R s m args below meth c H locs cells slots Q (F0 m tgt ls rest)) (ks : ∀ a : Nat, q = some a → W p l e R s m args below meth c H locs cells slots Q (F0 m (pc + 3) ls rest)) : W p l e R s m args below meth c H locs cells slots Q (F0 m pc ls (va_rf q :: rest)) := by
  cases q with
  | none => exact lv_ifnullN C.1 C.2.1 hdg ht (kn rfl)
  | some a => exact lv_ifnull C.1 C.2.1 hdg (ks a rfl)
theorem xx_ifnonnull {q : Option Nat} {off : Int} {tgt : Nat} (C : xx_C p s m args meth c cc nL own rt) (hdg : decode cc pc = .ok (.ifnonnull off, 3)) (ht : (pc : Int) + off = (tgt : Int)) (kn : q = none → W p l e R s m args below meth c H locs cells slots Q (F0 m (pc + 3) ls rest)) (ks : ∀ a : Nat, q = some a → W p l e R s m args below meth c H locs cells slots Q (F0 m tgt ls rest)) : W p l e R s m args below meth c H locs cells slots Q (F0 m pc ls (va_rf q :: rest)) := by
  cases q with
  | none => exact lv_ifnonnullN C.1 C.2.1 hdg (kn rfl)
  | some a => exact lv_ifnonnull C.1 C.2.1 hdg ht (ks a rfl)
theorem xx_qret {S1 : Type} {D : va_G} {tys : List (ClassId × FieldType)} {Wd : S1 → va_W} {u u1 : S1} {x r : Option Nat} {cn : String} (C : xx_C p s m args meth c cc nL own (some (.object cn))) (hF : some (x, u) = some (r, u1)) (hK : va_K D xx_cls tys s) (hP : va_P D xx_cls (Wd u) H) (hD : va_D A (Wd u)) (hS : va_S A s.heap H locs) (hdg : decode cc pc = .ok (.areturn, 1)) :
    W p l e R s m args below meth c H locs cells slots (MQ below (xx_Q D tys Wd (some (va_rf r)) u1 A) args s cells slots A) (F0 m pc ls [va_rf x]) := by
  cases hF
  exact W.aret (v := va_rf x) C.1 C.2.1 C.2.2.2.2.2.1 (Or.inl ⟨_, rfl⟩) (va_rf_or x) (fun t ht hW => xx_end hP hK hD hS rfl t ht hW) hS.2.2 hdg C.2.2.2.2.2.2.1
variable {D : va_G} {tys : List (ClassId × FieldType)}
/-- arrays of references that are fixed cells: a read -/
theorem xx_qald (C : xx_C p s m args meth c cc nL own rt) (hK : va_K D xx_cls tys s) {ws : va_W} (hP : va_P D xx_cls ws H) (q0 t0 : Nat) {cA : ClassId} {cn : String} {n a : Nat} {f : Nat → Option Nat} (ha : ws[q0]? = some (a, .inl (cA, n, .inr (.inr (.inr (.inr f)))))) (ht : tys[t0]? = some (cA, .object cn)) {i : Int32} {v : Option Nat} (hi : xx_ag f n i = some v) (hdg : decode cc pc = .ok (.aaload, 1))
    (kk : W p l e R s m args below meth c H locs cells slots Q (F0 m (pc + 1) ls (va_rf v :: rest))) : W p l e R s m args below meth c H locs cells slots Q (F0 m pc ls (.int i :: .ref a :: rest)) := by
  obtain ⟨h1, h2⟩ := xx_ag_some hi
  subst h2
  exact va_aldq C.1 C.2.1 hK hP q0 t0 ha ht h1 hdg kk
theorem xx_alen (C : xx_C p s m args meth c cc nL own rt) (hK : va_K D xx_cls tys s) {ws : va_W} (hP : va_P D xx_cls ws H) (q0 t0 : Nat) {cA : ClassId} {x : vp_A} {a : Nat} (ha : ws[q0]? = some (a, .inl (cA, x))) {ty : FieldType} (ht : tys[t0]? = some (cA, ty)) {v : Int32} (hv : Int32.ofNat x.1 = v) (hdg : decode cc pc = .ok (.arraylength, 1))
    (kk : W p l e R s m args below meth c H locs cells slots Q (F0 m (pc + 1) ls (.int v :: rest))) : W p l e R s m args below meth c H locs cells slots Q (F0 m pc ls (.ref a :: rest)) := va_alen C.1 C.2.1 hK hP q0 t0 ha ht hv hdg kk
end XQ
section ZQ
variable {p : Program} {l : Launch} {e : Env} {R : Room} {s : State} {m : MethodId} {args : Array Value} {below : List Frame} {meth : Method} {c : Code} {H : Heap} {locs : List Loc} {cells slots : Nat} {Q : State → Prop}
variable {cc : ByteArray} {nL pc index : Nat} {own : String} {rt : Option FieldType} {ls : Array Slot} {rest st0 : List Value} {A : Nat → Prop} {g : xx_G} {u u1 : zz_S}
/-- a field of an object of the pool -/
theorem zz_get (C : xx_C p s m args meth c cc nL own rt) {ref Cn : String} {T : u_T} {N ci : Nat} (hin : ∀ w ∈ u_ws Cn T N, w ∈ xx_tb) (hK : va_K g.1 xx_cls (zz_T g) s) (hP : va_P g.1 xx_cls (zz_W g u) H) {a : Nat} (hc : xx_cls[ci]? = some (Cn, T, N)) (k : Nat) (hk : k < N) (hlink : Cond.fieldLink own index ref (T k).2.1 (T k).2.2.1 ∈ xx_tb) (hsame : (T k).1 = ref) {v : Value} (hv : (a ∈ u.2.2.2.1.1 ∧ (u.2.2.2.1.2 a).1 = ci) ∧ (u.2.2.2.1.2 a).2[k]? = some v) (hdg : decode cc pc = .ok (.getfield index, 3))
    (kk : W p l e R s m args below meth c H locs cells slots Q (F0 m (pc + 3) ls (v :: rest))) : W p l e R s m args below meth c H locs cells slots Q (F0 m pc ls (.ref a :: rest)) := by
  obtain ⟨q0, he⟩ := zz_atW (g := g) hv.1
  exact xx_get C hin hK hP q0 he hc k hk hlink hsame hv.2 hdg kk
theorem zz_setA {hD : va_D A (zz_W g u)} {a ci q0 : Nat} {fs : List Value} (h : a ∈ u.2.2.2.1.1 ∧ (u.2.2.2.1.2 a).1 = ci) (he : (zz_X g u ++ va_pl u.2.2.2.1.1 (fun a => .inr (u.2.2.2.1.2 a)))[q0]? = some (a, .inr (ci, (u.2.2.2.1.2 a).2))) : (zz_W g u).set q0 (a, .inr (ci, fs)) = zz_W g (u.1, u.2.1, u.2.2.1, (u.2.2.2.1.1, va_up u.2.2.2.1.2 a (ci, fs)), u.2.2.2.2) := by
  have hl := (List.getElem?_eq_some_iff.mp he).1
  have hD1 : va_D A (zz_X g u ++ va_pl u.2.2.2.1.1 (fun a => .inr (u.2.2.2.1.2 a))) := by
    refine ⟨fun i j x y hi hj e => ?_, fun k q hk => ?_⟩
    · exact hD.1 i j x y (by unfold zz_W; rw [List.getElem?_append_left (List.getElem?_eq_some_iff.mp hi).1]; exact hi) (by unfold zz_W; rw [List.getElem?_append_left (List.getElem?_eq_some_iff.mp hj).1]; exact hj) e
    · exact hD.2 k q (by unfold zz_W; rw [List.getElem?_append_left (List.getElem?_eq_some_iff.mp hk).1]; exact hk)
  have he2 : (zz_X g u ++ va_pl u.2.2.2.1.1 (fun a => .inr (u.2.2.2.1.2 a)))[q0]? = some (a, (fun a => (.inr (u.2.2.2.1.2 a) : va_E)) a) := by rw [he, ← h.2]
  have h1 := va_pl_set (e := .inr (ci, fs)) hD1 h.1 he2
  have h2 : va_pl u.2.2.2.1.1 (va_up (fun a => (.inr (u.2.2.2.1.2 a) : va_E)) a (.inr (ci, fs))) = va_pl u.2.2.2.1.1 (fun b => .inr (va_up u.2.2.2.1.2 a (ci, fs) b)) := va_pl_congr (fun b => by by_cases hba : b = a <;> simp [va_up, hba])
  unfold zz_W
  rw [List.set_append_left _ _ hl, h1, h2]
  rfl
/-- a write of an int field of an object of the pool -/
theorem zz_put (C : xx_C p s m args meth c cc nL own rt) {ref Cn : String} {T : u_T} {N ci : Nat} (hin : ∀ w ∈ u_ws Cn T N, w ∈ xx_tb) (ty0 : Nat → FieldType) (hty : ∀ k, k < N → parseFieldDescriptor (T k).2.2.1 = some (ty0 k)) (hnm : ∀ a, a < N → ∀ b, b < N → a ≠ b → (T a).2.1 ≠ (T b).2.1) (hK : va_K g.1 xx_cls (zz_T g) s) (hP : va_P g.1 xx_cls (zz_W g u) H) (hD : va_D A (zz_W g u)) (hS : va_S A s.heap H locs) {a : Nat} (hc : xx_cls[ci]? = some (Cn, T, N)) (k : Nat) (hk : k < N) (hlink : Cond.fieldLink own index ref (T k).2.1 (T k).2.2.1 ∈ xx_tb) (hsame : (T k).1 = ref) (hfin : (T k).2.2.2 = false) {v : Value} (hn : narrow (ty0 k) v = v) (hfit : fits (ty0 k) v = true) (hw : zz_pw u a ci k v = some u1)
    (hdg : decode cc pc = .ok (.putfield index, 3)) (kk : ∀ (H1 : Heap) (locs1 : List Loc), va_P g.1 xx_cls (zz_W g u1) H1 → va_D A (zz_W g u1) → va_S A s.heap H1 locs1 → W p l e R s m args below meth c H1 locs1 cells slots Q (F0 m (pc + 3) ls rest)) : W p l e R s m args below meth c H locs cells slots Q (F0 m pc ls (v :: .ref a :: rest)) := by
  obtain ⟨_, h1, h2⟩ := xx_ob hw
  have h := zz_ok_some h1
  split at h2
  · rename_i hlen
    obtain ⟨q0, he⟩ := zz_at (g := g) h
    have heW : (zz_W g u)[q0]? = some (a, .inr (ci, (u.2.2.2.1.2 a).2)) := by
      unfold zz_W
      rw [List.getElem?_append_left (List.getElem?_eq_some_iff.mp he).1]
      exact he
    refine xx_put (ws1 := zz_W g u1) C hin ty0 hty hnm hK hP hD hS q0 heW hc k hk hlink hsame hfin hn hfit hlen ?_ hdg kk
    rw [← Option.some.inj h2]
    exact zz_setA (hD := hD) h he
  · cases h2
/-- a call on an object of the pool -/
theorem zz_callP {y : MethodName} {bytes : ByteArray} {maxL : Nat} {ret : Option FieldType} {rm : Room} {As : List Value} {T : u_T} {N ci b : Nat} {Cn : String} {n : Nat} {rv : Option Value} {x9 : Unit} (C : xx_C p s m args meth c cc nL own rt) (hM : xx_M l g.1 (zz_T g) (zz_W g) y bytes maxL ret rm (.ref b :: As) u rv u1)
    (hw : Cond.code y bytes maxL ret ∈ xx_tb ∧ Cond.methodLink own index y ∈ xx_tb ∧ Cond.instanceMethod y ∈ xx_tb ∧ Cond.selects Cn y y ∈ xx_tb ∧ Cond.initialized y.cls ∈ xx_tb) (hd : y.cls ≠ "java/lang/invoke/MethodHandle" ∧ y.cls ≠ "java/lang/invoke/VarHandle" ∧ (parseMethodDescriptor y.desc).map (fun d => d.parameters.length) = some n) (hn : As.length = n) (hR : rm.frames + 1 ≤ R.frames ∧ 8 + (maxL + 11) + rm.locals ≤ R.locals)
    (hok : zz_ok u b ci = some x9) (hc : xx_cls[ci]? = some (Cn, T, N))
    (hl : ls.size = nL) (hst : st0 = As.reverse ++ .ref b :: rest) (hrs : (rest.map fun v => v.category).sum ≤ 8) (hA : ∀ q, s.heap.size ≤ q → A q) (hK : va_K g.1 xx_cls (zz_T g) s) (hP : va_P g.1 xx_cls (zz_W g u) H) (hD : va_D A (zz_W g u)) (hS : va_S A s.heap H locs) (hf : cells + rm.cells ≤ R.cells ∧ slots + rm.slots ≤ R.slots) {st1 : List Value} {cells1 slots1 : Nat} (hst1 : rv.toList ++ rest = st1) (hc1 : cells + rm.cells = cells1) (hs1 : slots + rm.slots = slots1) (hdg : decode cc pc = .ok (.invokevirtual index, 3))
    (kk : ∀ (H1 : Heap) (locs1 : List Loc), va_P g.1 xx_cls (zz_W g u1) H1 → va_D A (zz_W g u1) → va_S A s.heap H1 locs1 → W p l e R s m args below meth c H1 locs1 cells1 slots1 Q (F0 m (pc + 3) ls st1)) : W p l e R s m args below meth c H locs cells slots Q (F0 m pc ls st0) := by
  obtain ⟨q0, he⟩ := zz_atW (g := g) (zz_ok_some hok)
  exact xx_callV C hM hw hd hn hR q0 he hc hl hst hrs hA hK hP hD hS hf hst1 hc1 hs1 hdg kk
end ZQ
section ZR
variable {p : Program} {l : Launch} {e : Env} {R : Room} {s : State} {m : MethodId} {args : Array Value} {below : List Frame} {meth : Method} {c : Code} {H : Heap} {locs : List Loc} {cells slots : Nat} {Q : State → Prop}
variable {cc : ByteArray} {nL pc index : Nat} {own : String} {rt : Option FieldType} {ls : Array Slot} {rest st0 : List Value} {A : Nat → Prop} {g : xx_G} {u u1 : zz_S}
/-- a write into a fixed array of references -/
theorem zz_qast (C : xx_C p s m args meth c cc nL own rt) (hK : va_K g.1 xx_cls (zz_T g) s) (hP : va_P g.1 xx_cls (zz_W g u) H) (hD : va_D A (zz_W g u)) (hS : va_S A s.heap H locs) (q0 t0 k ci : Nat) {cA : ClassId} {r : vw_C} {n a0 a : Nat} {i : Int32} (ha : (zz_W g u)[q0]? = some (a0, .inl (cA, n, .inr (.inr (.inr (.inr (u.2.2.1 k))))))) (ht : (zz_T g)[t0]? = some (cA, .object r.1)) (hc : xx_cls[ci]? = some r) (hw : zz_as u k n ci i a = some u1) (hset : ∀ f, (zz_W g u).set q0 (a0, .inl (cA, n, .inr (.inr (.inr (.inr f))))) = zz_W g (u.1, u.2.1, va_up u.2.2.1 k f, u.2.2.2)) (hdg : decode cc pc = .ok (.aastore, 1))
    (kk : ∀ (H1 : Heap) (locs1 : List Loc), va_P g.1 xx_cls (zz_W g u1) H1 → va_D A (zz_W g u1) → va_S A s.heap H1 locs1 → W p l e R s m args below meth c H1 locs1 cells slots Q (F0 m (pc + 1) ls rest)) : W p l e R s m args below meth c H locs cells slots Q (F0 m pc ls (.ref a :: .int i :: .ref a0 :: rest)) := by
  obtain ⟨_, h1, h2⟩ := xx_ob hw
  obtain ⟨f1, h3, h4⟩ := xx_ob h2
  obtain ⟨hin, e1⟩ := xx_as_some h3
  obtain ⟨qk, hv⟩ := zz_atW (g := g) (zz_ok_some h1)
  have e2 := Option.some.inj h4
  refine va_astq C.1 C.2.1 hK hP hD hS q0 t0 qk ci ha ht hv hc hin hdg (fun H1 locs1 g1 g2 g3 => kk H1 locs1 ?_ ?_ g3)
  · rw [← e2, ← hset, e1]; exact g1
  · rw [← e2, ← hset, e1]; exact g2
theorem zz_atN {b : Nat} (h : b ∈ u.2.2.2.2.1) : ∃ k : Nat, (zz_W g u)[k]? = some (b, .inl (g.2.2 3, 8, .inr (.inr (.inr (.inr (u.2.2.2.2.2 b)))))) := va_pl_get h
theorem zz_nald (C : xx_C p s m args meth c cc nL own rt) (hK : va_K g.1 xx_cls (zz_T g) s) (hP : va_P g.1 xx_cls (zz_W g u) H) {b : Nat} {i : Int32} {v : Option Nat} (hi : zz_na u b i = some v) (hdg : decode cc pc = .ok (.aaload, 1))
    (kk : W p l e R s m args below meth c H locs cells slots Q (F0 m (pc + 1) ls (va_rf v :: rest))) : W p l e R s m args below meth c H locs cells slots Q (F0 m pc ls (.int i :: .ref b :: rest)) := by
  unfold zz_na at hi
  split at hi
  · rename_i hb
    obtain ⟨k, hk⟩ := zz_atN (g := g) hb
    exact xx_qald C hK hP k 3 hk rfl hi hdg kk
  · cases hi
theorem zz_nlen (C : xx_C p s m args meth c cc nL own rt) (hK : va_K g.1 xx_cls (zz_T g) s) (hP : va_P g.1 xx_cls (zz_W g u) H) {b : Nat} {v : Int32} (hi : zz_nl u b = some v) (hdg : decode cc pc = .ok (.arraylength, 1))
    (kk : W p l e R s m args below meth c H locs cells slots Q (F0 m (pc + 1) ls (.int v :: rest))) : W p l e R s m args below meth c H locs cells slots Q (F0 m pc ls (.ref b :: rest)) := by
  unfold zz_nl at hi
  split at hi
  · rename_i hb
    obtain ⟨k, hk⟩ := zz_atN (g := g) hb
    exact xx_alen (v := v) C hK hP k 3 hk rfl (by rw [← Option.some.inj hi]; rfl) hdg kk
  · cases hi
theorem zz_nast (C : xx_C p s m args meth c cc nL own rt) (hK : va_K g.1 xx_cls (zz_T g) s) (hP : va_P g.1 xx_cls (zz_W g u) H) (hD : va_D A (zz_W g u)) (hS : va_S A s.heap H locs) {a b : Nat} {i : Int32} (hw : zz_ns u b i a = some u1) (hdg : decode cc pc = .ok (.aastore, 1))
    (kk : ∀ (H1 : Heap) (locs1 : List Loc), va_P g.1 xx_cls (zz_W g u1) H1 → va_D A (zz_W g u1) → va_S A s.heap H1 locs1 → W p l e R s m args below meth c H1 locs1 cells slots Q (F0 m (pc + 1) ls rest)) : W p l e R s m args below meth c H locs cells slots Q (F0 m pc ls (.ref a :: .int i :: .ref b :: rest)) := by
  unfold zz_ns at hw
  split at hw
  · rename_i hb
    obtain ⟨_, h1, h2⟩ := xx_ob hw
    obtain ⟨f1, h3, h4⟩ := xx_ob h2
    obtain ⟨hin, e1⟩ := xx_as_some h3
    obtain ⟨qk, hv⟩ := zz_atW (g := g) (zz_ok_some h1)
    obtain ⟨k, hk⟩ := zz_atN (g := g) hb
    have e2 := Option.some.inj h4
    have hset : (zz_W g u).set k (b, .inl (g.2.2 3, 8, .inr (.inr (.inr (.inr f1))))) = zz_W g u1 := by
      have h5 := va_pl_set (e := .inl (g.2.2 3, 8, .inr (.inr (.inr (.inr f1))))) hD hb hk
      refine h5.trans ?_
      rw [← e2]
      show _ = _ ++ zz_Z g _
      congr 1
      refine va_pl_congr (fun z => ?_)
      by_cases hzb : z = b <;> simp [va_up, hzb]
    refine va_astq (r := (kr_LoadedModule, kf_LoadedModule, 10)) C.1 C.2.1 hK hP hD hS k 3 qk 9 hk rfl hv rfl hin hdg (fun H1 locs1 g1 g2 g3 => kk H1 locs1 ?_ ?_ g3)
    · rw [← hset, e1]; exact g1
    · rw [← hset, e1]; exact g2
  · cases hw
end ZR
section XN
variable {p : Program} {l : Launch} {e : Env} {R : Room} {s : State} {m : MethodId} {args : Array Value} {below : List Frame} {meth : Method} {c : Code} {H : Heap} {locs : List Loc} {cells slots : Nat} {Q : State → Prop}
variable {cc : ByteArray} {nL pc index : Nat} {own : String} {rt : Option FieldType} {ls : Array Slot} {rest st0 : List Value} {A : Nat → Prop}
variable {S1 : Type} {D : va_G} {tys : List (ClassId × FieldType)} {Wd : S1 → va_W} {u u1 : S1} {rv : Option Value}
/-- a private static method of a nest mate -/
theorem xx_callSN {y : MethodName} {bytes : ByteArray} {maxL : Nat} {ret : Option FieldType} {rm : Room} {As : List Value} {n : Nat} {host : String} (C : xx_C p s m args meth c cc nL own rt) (hM : xx_M l D tys Wd y bytes maxL ret rm As u rv u1)
    (hw : Cond.code y bytes maxL ret ∈ xx_tb ∧ va_Nw (.methodLinkNest own index y host) s ∧ Cond.static y ∈ xx_tb ∧ Cond.initialized y.cls ∈ xx_tb) (hd : y.cls ≠ "java/lang/invoke/MethodHandle" ∧ y.cls ≠ "java/lang/invoke/VarHandle" ∧ (parseMethodDescriptor y.desc).map (fun d => d.parameters.length) = some n) (hn : As.length = n) (hR : rm.frames + 1 ≤ R.frames ∧ 8 + (maxL + 11) + rm.locals ≤ R.locals)
    (hl : ls.size = nL) (hst : st0 = As.reverse ++ rest) (hrs : (rest.map fun v => v.category).sum ≤ 8) (hA : ∀ q, s.heap.size ≤ q → A q) (hK : va_K D xx_cls tys s) (hP : va_P D xx_cls (Wd u) H) (hD : va_D A (Wd u)) (hS : va_S A s.heap H locs) (hf : cells + rm.cells ≤ R.cells ∧ slots + rm.slots ≤ R.slots) {st1 : List Value} {cells1 slots1 : Nat} (hst1 : rv.toList ++ rest = st1) (hc1 : cells + rm.cells = cells1) (hs1 : slots + rm.slots = slots1) (hdg : decode cc pc = .ok (.invokestatic index, 3))
    (kk : ∀ (H1 : Heap) (locs1 : List Loc), va_P D xx_cls (Wd u1) H1 → va_D A (Wd u1) → va_S A s.heap H1 locs1 → W p l e R s m args below meth c H1 locs1 cells1 slots1 Q (F0 m (pc + 3) ls st1)) : W p l e R s m args below meth c H locs cells slots Q (F0 m pc ls st0) := by
  subst hst1
  subst hc1
  subst hs1
  subst hn
  exact xx_call (a := As.toArray) (va_runSN (y := y) (bytes := bytes) (maxL := maxL) (ret := ret) (ws := Cond.code y bytes maxL ret :: xx_tb) (rm := rm) (n := As.length) (As := As) (Ts := xx_tb) ⟨C.1, C.2.1, C.2.2.1, C.2.2.2.1, C.2.2.2.2.1⟩ (hM H.size)
    ⟨va_cnB As.length C.2.2.2.2.1 (xx_GI (xx_GIc hw.1)) rfl rfl rfl hw.2.1 (C.2.2.2.2.1 _ hw.2.2.2) hd hR, C.2.2.2.2.1 _ hw.2.2.1, trivial⟩ ⟨xx_blind, fun U hU hW => xx_pre C.2.2.2.2.2.2.2 hK hP hD U hU hW⟩ rfl rfl hl hst (lv_room hrs) hdg hf) hA hD hS kk
end XN
