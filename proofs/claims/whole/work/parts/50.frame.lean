/-! a contract in a larger world: what it doesn't speak of stays -/
theorem xf_nd {A : Nat → Prop} {ws : va_W} : va_D A ws ↔ (ws.map (·.1)).Nodup ∧ ∀ q ∈ ws, A q.1 := by
  constructor
  · intro h
    refine ⟨?_, fun q hq => ?_⟩
    · rw [List.nodup_iff_pairwise_ne, List.pairwise_iff_getElem]
      intro i j hi hj hij he
      simp only [List.length_map] at hi hj
      simp only [List.getElem_map] at he
      have := h.1 i j _ _ (List.getElem?_eq_getElem hi) (List.getElem?_eq_getElem hj) he
      omega
    · obtain ⟨k, hk⟩ := List.getElem?_of_mem hq
      exact h.2 k q hk
  · intro h
    refine ⟨fun i j x y hi hj he => ?_, fun k q hk => h.2 q (List.mem_of_getElem? hk)⟩
    have h1 := h.1
    rw [List.nodup_iff_pairwise_ne, List.pairwise_iff_getElem] at h1
    obtain ⟨hi', ei⟩ := List.getElem?_eq_some_iff.mp hi
    obtain ⟨hj', ej⟩ := List.getElem?_eq_some_iff.mp hj
    rcases Nat.lt_trichotomy i j with hlt | heq | hgt
    · exact absurd (by rw [List.getElem_map, List.getElem_map, ei, ej]; exact he) (h1 i j (by simpa using hi') (by simpa using hj') hlt)
    · exact heq
    · exact absurd (by rw [List.getElem_map, List.getElem_map, ei, ej]; exact he.symm) (h1 j i (by simpa using hj') (by simpa using hi') hgt)
theorem xf_P {D : va_G} {cl : List vw_C} {ws : va_W} {H : Heap} : va_P D cl ws H ↔ ∀ q ∈ ws, va_at D cl q H := by
  constructor
  · intro h q hq
    obtain ⟨k, hk⟩ := List.getElem?_of_mem hq
    exact h k q hk
  · intro h k q hk
    exact h q (List.mem_of_getElem? hk)
theorem xf_Pp {D : va_G} {cl : List vw_C} {w1 w2 : va_W} {H : Heap} (hp : w1.Perm w2) (h : va_P D cl w1 H) : va_P D cl w2 H := xf_P.mpr fun q hq => xf_P.mp h q (hp.mem_iff.mpr hq)
theorem xf_Dp {A : Nat → Prop} {w1 w2 : va_W} (hp : w1.Perm w2) (h : va_D A w1) : va_D A w2 := by
  rw [xf_nd] at h ⊢
  exact ⟨(hp.map _).nodup_iff.mp h.1, fun q hq => h.2 q (hp.mem_iff.mpr hq)⟩
theorem xf_A {ws : va_W} {sz q : Nat} : va_A ws sz q ↔ q ∈ ws.map (·.1) ∨ sz ≤ q := by
  constructor
  · rintro (⟨k, e, h⟩ | h)
    · exact Or.inl (List.mem_map.mpr ⟨_, List.mem_of_getElem? h, rfl⟩)
    · exact Or.inr h
  · rintro (h | h)
    · obtain ⟨x, hx, rfl⟩ := List.mem_map.mp h
      obtain ⟨k, hk⟩ := List.getElem?_of_mem hx
      exact Or.inl ⟨k, x.2, hk⟩
    · exact Or.inr h
/-- behind a callee that has the part w of the world w ++ F -/
theorem xf_back {D : va_G} {cl : List vw_C} {w w1 F : va_W} {H H1 : Heap} (hP : va_P D cl (w ++ F) H) (hD : va_D (fun _ => True) (w ++ F)) (hk : ∀ q : Nat, q < H.size → ¬ va_A w H.size q → H1[q]? = H[q]?) (hP1 : va_P D cl w1 H1) (hD1 : va_D (va_A w H.size) w1) : va_P D cl (w1 ++ F) H1 ∧ va_D (va_A (w ++ F) H.size) (w1 ++ F) := by
  rw [xf_nd] at hD
  have hnd := hD.1
  rw [List.map_append, List.nodup_append] at hnd
  have hF : ∀ x ∈ F, x.1 < H.size ∧ ¬ va_A w H.size x.1 := by
    intro x hx
    have h1 := (xf_P.mp hP x (List.mem_append_right _ hx)).lt
    refine ⟨h1, fun h => ?_⟩
    rcases xf_A.mp h with h | h
    · exact hnd.2.2 _ h _ (List.mem_map.mpr ⟨x, hx, rfl⟩) rfl
    · omega
  rw [xf_nd] at hD1
  refine ⟨hP1.app (xf_P.mpr fun x hx => (xf_P.mp hP x (List.mem_append_right _ hx)).kept (hk _ (hF x hx).1 (hF x hx).2)), xf_nd.mpr ⟨?_, fun x hx => ?_⟩⟩
  · rw [List.map_append, List.nodup_append]
    refine ⟨hD1.1, hnd.2.1, fun a ha b hb hab => ?_⟩
    obtain ⟨x, hx, rfl⟩ := List.mem_map.mp ha
    obtain ⟨y, hy, rfl⟩ := List.mem_map.mp hb
    have h1 := hD1.2 x hx
    rw [hab] at h1
    exact (hF y hy).2 h1
  · rcases List.mem_append.mp hx with h | h
    · rcases xf_A.mp (hD1.2 x h) with h2 | h2
      · exact xf_A.mpr (Or.inl (by rw [List.map_append]; exact List.mem_append_left _ h2))
      · exact xf_A.mpr (Or.inr h2)
    · exact xf_A.mpr (Or.inl (by rw [List.map_append]; exact List.mem_append_right _ (List.mem_map.mpr ⟨x, h, rfl⟩)))
theorem xf_Ap {w1 w2 : va_W} {sz q : Nat} (hp : w1.Perm w2) : va_A w1 sz q ↔ va_A w2 sz q := by rw [xf_A, xf_A, (hp.map _).mem_iff]
theorem xf_As {w F : va_W} {sz q : Nat} (h : va_A w sz q) : va_A (w ++ F) sz q := by
  rcases xf_A.mp h with h | h
  · exact xf_A.mpr (Or.inl (by rw [List.map_append]; exact List.mem_append_left _ h))
  · exact xf_A.mpr (Or.inr h)
theorem xf_K {D : va_G} {cl : List vw_C} {t1 t2 : List (ClassId × FieldType)} {U : State} (h : va_K D cl t2 U) (hs : ∀ q ∈ t1, q ∈ t2) : va_K D cl t1 U :=
  ⟨h.1, fun k q hk => by obtain ⟨j, hj⟩ := List.getElem?_of_mem (hs q (List.mem_of_getElem? hk)); exact h.2 j q hj⟩
section XF
variable {S1 S2 : Type} {l : Launch} {D : va_G} {tys tys' : List (ClassId × FieldType)} {Wd : S1 → va_W} {Wb : S2 → va_W} {y : MethodName} {b : ByteArray} {nL : Nat} {rt : Option FieldType} {rm : Room} {vs : List Value} {u u1 : S1} {v v1 : S2} {rv : Option Value}
theorem xf_M (h : xx_M l D tys Wd y b nL rt rm vs u rv u1) (F : va_W) (hin : (Wd u ++ F).Perm (Wb v)) (hout : (Wd u1 ++ F).Perm (Wb v1)) (hty : ∀ q ∈ tys, q ∈ tys') : xx_M l D tys' Wb y b nL rt rm vs v rv v1 := by
  intro sz p e ha hc hk s m args below hf happ hPre hK0
  obtain ⟨rfl, hsz, hN, hP, hK, hD⟩ := hPre
  subst hsz
  have hP' := xf_Pp hin.symm hP
  have hD' := xf_Dp hin.symm hD
  have hPu : va_P D xx_cls (Wd u) s.heap := xf_P.mpr fun q hq => xf_P.mp hP' q (List.mem_append_left _ hq)
  have hDu : va_D (fun _ => True) (Wd u) := by
    rw [xf_nd] at hD' ⊢
    have h9 := hD'.1
    rw [List.map_append, List.nodup_append] at h9
    exact ⟨h9.1, fun _ _ => trivial⟩
  obtain ⟨n, o, h1, h2, h3, ⟨⟨ho, hP1, -, hD1⟩, hF1, hF2⟩, L, hfe, hL⟩ := h s.heap.size p e ha hc hk s m _ below hf happ ⟨rfl, rfl, hN, hPu, xf_K hK hty, hDu⟩ trivial
  obtain ⟨b1, b2⟩ := xf_back hP' hD' hF2 hP1 hD1
  have hA : ∀ q, va_A (Wd u) s.heap.size q → va_A (Wb v) s.heap.size q := fun q hq => (xf_Ap hin).mp (xf_As hq)
  refine ⟨n, o, h1, h2, h3, ⟨⟨ho, xf_Pp hout b1, va_K.moved hfe.2.1.alike hK, xf_Dp hout (b2.weaken (fun _ q _ hq => (xf_Ap hin).mp hq))⟩, hF1, fun q hq hn => hF2 q hq (fun z => hn (hA q z))⟩, L, hfe, fun q hq => hA _ (hL q hq)⟩
variable {Po : Option Value → S1 → Prop} {Px : String → S1 → Prop}
theorem xf_W {Po' : Option Value → S2 → Prop} {Px' : String → S2 → Prop} (h : xw_M l D tys Wd y b nL rt rm vs u Po Px) (F : va_W) (emb : S1 → S2) (hin : (Wd u ++ F).Perm (Wb v)) (hout : ∀ w, (Wd w ++ F).Perm (Wb (emb w))) (hty : ∀ q ∈ tys, q ∈ tys') (hPo : ∀ r w, Po r w → Po' r (emb w)) (hPx : ∀ E w, Px E w → Px' E (emb w)) : xw_M l D tys' Wb y b nL rt rm vs v Po' Px' := by
  intro sz p e ha hc hk s m args below hf happ hPre hK0
  obtain ⟨rfl, hsz, hN, hP, hK, hD⟩ := hPre
  subst hsz
  have hP' := xf_Pp hin.symm hP
  have hD' := xf_Dp hin.symm hD
  have hPu : va_P D xx_cls (Wd u) s.heap := xf_P.mpr fun q hq => xf_P.mp hP' q (List.mem_append_left _ hq)
  have hDu : va_D (fun _ => True) (Wd u) := by
    rw [xf_nd] at hD' ⊢
    have h9 := hD'.1
    rw [List.map_append, List.nodup_append] at h9
    exact ⟨h9.1, fun _ _ => trivial⟩
  obtain ⟨n, o, h1, h2, h3, hcase, ⟨hF1, hF2⟩, hW, L, hsm, hL⟩ := h s.heap.size p e ha hc hk s m _ below hf happ ⟨rfl, rfl, hN, hPu, xf_K hK hty, hDu⟩ trivial
  have hA : ∀ q, va_A (Wd u) s.heap.size q → va_A (Wb v) s.heap.size q := fun q hq => (xf_Ap hin).mp (xf_As hq)
  have key : ∀ w : S1, xx_B D tys Wd (va_A (Wd u) s.heap.size) w (stepsAlone p.tables e n s) → xx_B D tys' Wb (va_A (Wb v) s.heap.size) (emb w) (stepsAlone p.tables e n s) := by
    intro w hB
    obtain ⟨b1, b2⟩ := xf_back hP' hD' hF2 hB.1 hB.2.2
    exact ⟨xf_Pp (hout w) b1, va_K.moved hW.alike hK, xf_Dp (hout w) (b2.weaken (fun _ q _ hq => (xf_Ap hin).mp hq))⟩
  refine ⟨n, o, h1, h2, h3, ?_, ⟨hF1, fun q hq hn => hF2 q hq (fun z => hn (hA q z))⟩, hW, L, hsm, fun q hq => hA _ (hL q hq)⟩
  rcases hcase with ⟨r, w, ho, hpo, hB⟩ | ⟨q, E, w, ce, ho, hpx, hB, hr⟩
  · exact Or.inl ⟨r, emb w, ho, hPo r w hpo, key w hB⟩
  · exact Or.inr ⟨q, E, emb w, ce, ho, hPx E w hpx, key w hB, hr⟩
end XF
