/-! throw new E() -/
section XT
variable {p : Program} {l : Launch} {e : Env} {R : Room} {s : State} {m : MethodId} {args : Array Value} {below : List Frame} {meth : Method} {c : Code} {H : Heap} {locs : List Loc} {cells slots : Nat} {Q : State → Prop}
variable {cc : ByteArray} {nL pc : Nat} {own : String} {rt : Option FieldType} {ls : Array Slot} {rest : List Value} {A : Nat → Prop}
variable {S1 : Type} {D : va_G} {tys : List (ClassId × FieldType)} {Wd : S1 → va_W} {u : S1} {Po : Option Value → S1 → Prop} {Px : String → S1 → Prop} {mc ms : Nat}
/-- the state in which this heap would stand at the method's own invocation -/
def xw_now (s T : State) (m : MethodId) (args : Array Value) (below : List Frame) : State := (T.setVm s.vm).setFrames (.invoking m args :: below)
theorem xw_now_stand {T : State} (X : Stand p l e R s m args below meth c T locs cells slots) {k n : Nat} (hc : cells + k ≤ R.cells) (hs : slots + n ≤ R.slots) :
    Stand p l e { frames := R.frames, locals := R.locals, cells := k, slots := n } (xw_now s T m args below) m args below meth c T [] 0 0 := by
  have htop : (T.setVm s.vm).topJava?.isSome := X.here.top
  obtain ⟨f0, hf0⟩ := Option.isSome_iff_exists.mp htop
  obtain ⟨tl, htl⟩ := State.topJava?_eq_some.mp hf0
  have hfr : (xw_now s T m args below).frames = .invoking m args :: below := State.frames_setFrames _ (State.cur_lt_of_top htop)
  have hu : (xw_now s T m args below).localsInUse = s.localsInUse := (State.localsInUse_invoking hfr (meth := meth) (c := c) X.method X.code).trans (State.localsInUse_invoking X.frames X.method X.code).symm
  have hlim : e.platform.stackLimits (xw_now s T m args below).me = e.platform.stackLimits s.me := by unfold xw_now; rw [State.stackLimits_setFrames]; exact X.limits
  have hby : (xw_now s T m args below).me.stackBytes = s.me.stackBytes := by unfold xw_now; rw [State.stackBytes_setFrames]; exact X.bytes
  have hsz := X.heapSize
  have hus := X.used
  have hroom : (xw_now s T m args below).hasRoom e.platform { frames := R.frames, locals := R.locals, cells := k, slots := n } = true := by
    have h := X.room
    simp only [State.hasRoom, Bool.and_eq_true, decide_eq_true_eq] at h ⊢
    obtain ⟨⟨⟨⟨h1, h2, h3, h4, h5, h6⟩, h7⟩, h8⟩, -⟩ := h
    rw [X.frames, List.length_cons] at h2 h3
    simp only [hfr, hu, List.length_cons, hlim, hby]
    exact ⟨⟨⟨⟨by omega, by omega, by omega, by omega, by omega, h6⟩, by show T.heap.size + k ≤ _; omega⟩, by show T.slotsUsed + n ≤ _; omega⟩, X.book⟩
  have hsame : (xw_now s T m args below).sameButNew (T.setVm (xw_now s T m args below).vm) [] 0 0 := by
    refine ⟨?_, Nat.le_refl _, Nat.le_refl _, ?_, ?_, fun a c9 h9 => ⟨c9, h9, rfl, rfl, fun _ _ => rfl⟩⟩
    · obtain ⟨th, hth, -⟩ := State.frames_cons htl
      show T.setVm s.vm = { ((T.setVm s.vm).setFrames (.invoking m args :: below)).setFrames (T.setVm s.vm).frames with heap := T.heap, slotsUsed := T.slotsUsed }
      rw [State.setFrames_setFrames, State.setFrames_self hth]
      rfl
    · show T.slotsUsed = T.slotsUsed + ((T.heap.toList.drop T.heap.size).map (·.slots.size)).sum
      rw [List.drop_eq_nil_of_le (Nat.le_of_eq Array.length_toList)]
      rfl
    · show ((T.heap.toList.drop T.heap.size).map (·.slots.size)).sum ≤ 0
      rw [List.drop_eq_nil_of_le (Nat.le_of_eq Array.length_toList)]
      exact Nat.le_refl _
  exact ⟨X.admits, X.cas, X.clock, hfr, hroom, X.hears, X.method, X.code, X.here, X.tail, X.warmed, hlim.symm ▸ X.limits, hby.symm ▸ X.bytes, hsame⟩
/-- what a walk from the state 'now' changes: new cells alone -/
theorem xw_only_new {s U : State} {k n : Nat} (h : s.sameButNew ({ U with vm := s.vm } : State) [] k n) : s.heap.size ≤ U.heap.size ∧ ∀ q : Nat, q < s.heap.size → U.heap[q]? = s.heap[q]? := by
  obtain ⟨-, h2, -, -, -, h6⟩ := h
  refine ⟨h2, fun q hq => ?_⟩
  obtain ⟨x, hx⟩ : ∃ x, s.heap[q]? = some x := ⟨_, Array.getElem?_eq_getElem hq⟩
  obtain ⟨c', g1, g2, g3, g4⟩ := h6 q x hx
  have g1 : U.heap[q]? = some c' := g1
  rw [g1, hx, g2]
  have : c'.slots = x.slots := by
    apply Array.ext_getElem?
    intro i
    exact g4 i (fun z => nomatch z)
  rw [this]
/-- the words that making and throwing E asks, but the statics' -/
theorem xw_atoms {ic : Nat} {cls : String} {names : List String} {s' : State} (hvm : s'.vm = s.vm) (hz : ∀ w ∈ xw_zs, w.before #[] s' = true) (h : ∀ w ∈ Bundle.ownAtoms0 own ic cls names, w ∈ xw_zs ∨ (w.onTables = true ∧ w.before args s = true)) : ∀ w ∈ Bundle.ownAtoms0 own ic cls names, w.before args s' = true := by
  intro w hw
  rcases h w hw with h1 | ⟨h1, h2⟩
  · have h3 := hz w h1
    simp only [xw_zs, List.mem_cons, List.not_mem_nil, or_false] at h1
    rcases h1 with rfl | rfl | rfl | rfl <;> exact h3
  · exact va_tabs h1 hvm.symm h2
theorem xw_throw (C : xx_C p s m args meth c cc nL own rt) (CW : xw_C s c A) (hl : l.stackTraces = false) {cls : String} {names : List String} {ik ic : Nat} (hfit : Bundle.fit cls = true) (hnames : ∀ n ∈ names, Bundle.fit n = true) (hk : Cond.classLink own ik cls ∈ xx_tb) (hini : Cond.initialized cls ∈ xx_tb) (hat : ∀ w ∈ Bundle.ownAtoms0 own ic cls names, w ∈ xw_zs ∨ (w.onTables = true ∧ w.before args s = true))
    (hK : va_K D xx_cls tys s) (hP : va_P D xx_cls (Wd u) H) (hD : va_D A (Wd u)) (hS : va_S A s.heap H locs) (hsize : ls.size = nL) (hF : Px cls u)
    (d0 : decode cc pc = .ok (.new ik, 3)) (d3 : decode cc (pc + 3) = .ok (.dup, 1)) (d4 : decode cc (pc + 4) = .ok (.invokespecial ic, 3)) (d7 : decode cc (pc + 7) = .ok (.athrow, 1))
    (hRframes : names.length + 3 < R.frames) (hRlocals : 1 + (rest.map fun v => v.category).sum + (13 * (names.length + 1) + 41) ≤ R.locals) (hRcells : cells + 1 ≤ R.cells) (hRslots : slots + 6 ≤ R.slots) (hc : cells + 1 ≤ mc) (hs : slots + 6 ≤ ms) :
    W p l e R s m args below meth c H locs cells slots (xw_MQ D tys Wd Po Px A below args s mc ms) (F0 m pc ls rest) := by
  obtain ⟨hexec, hb, hml, hown, hts, -, hlocks, -⟩ := C
  intro T hT X
  have htr : e.platform.stackTraces = false := (show e.platform.stackTraces = l.stackTraces by rw [X.admits.platform]).trans hl
  have Y := xw_now_stand X (k := 1) (n := 6) hRcells hRslots
  obtain ⟨s', hs'⟩ : ∃ z, z = xw_now s T m args below := ⟨_, rfl⟩
  rw [← hs'] at Y
  have hvm : s'.vm = s.vm := by rw [hs']; rfl
  have hhp : s'.heap = H := by rw [hs']; exact hT
  have hW0 : s.WarmedH s'.vm := by rw [hvm]; exact State.WarmedH.refl s
  have hZ : xw_Z s' := xw_Z.move hW0 (fun q x hx hst => by rw [hhp, hS.2.1 q (Array.getElem?_eq_some_iff.mp hx).1 (CW.2.1 q x hx hst)]; exact hx) CW.2.2
  have h := xw_atoms (own := own) (args := args) (s := s) hvm hZ.2.1 hat
  have hown' : s'.vm.findClass own = some m.cls := by rw [hvm]; exact hown
  have hk' : (Cond.classLink own ik cls).before args s' = true := va_tabs rfl hvm.symm (hts _ hk)
  have hini' : (Cond.initialized cls).before args s' = true := va_tabs rfl hvm.symm (hts _ hini)
  have hins : (Cond.instantiable cls 6).before args s' = true := h _ (by simp [Bundle.ownAtoms0])
  obtain ⟨vm₁, cX, kX, hfX, hkX, -, -, X₁, st1⟩ := Y.newCold hexec (own := own) (C := cls) (index := ik) (n := 6) hown' hk' hins hini'
    (g := F0 m pc ls rest) rfl (by rw [hb]; exact d0) (Nat.le_refl _) (Nat.le_refl _)
  generalize hT1 : (T.setVm vm₁).pushCell { cls := cX, slots := kX.instanceTypes.map defaultValue, vm := .none } = T1 at X₁ st1
  have hcellA : T1.heap[T.heap.size]? = some (freshCell cX kX) := by rw [← hT1]; exact State.heap_pushCell_size _ _
  have d3' : decode c.code (pc + 3) = .ok (.dup, 1) := by rw [hb]; exact d3
  have hno : ∀ x ∈ c.exceptionTable.toList, covers x (pc + 7) = false := by
    have h0 : c.exceptionTable.size = 0 := by simpa [Array.isEmpty] using CW.1
    have h1 : c.exceptionTable.toList = [] := List.eq_nil_of_length_eq_zero (by simpa using h0)
    intro x hx
    rw [h1] at hx
    cases hx
  obtain ⟨U, hsteps, hrun, hend, hW, hsame, ce, hce, hO⟩ := X₁.ctorThrow0 hexec htr (own := own) (cls := cls) (names := names) (ic := ic) hown' hfit hnames h (fun x hx => nomatch hx) hfX hkX hcellA (by rw [hhp, hT]; exact Nat.le_refl _)
    (g := { method := m, pc := pc + 4, locals := ls, stack := .ref T.heap.size :: .ref T.heap.size :: rest, locked := none }) rfl (hsize.trans hml.symm) rfl rfl (rest := rest) rfl
    (by rw [hb]; exact d4) (by rw [hb]; exact d7) hno hRframes (by simp only [List.map_cons, List.sum_cons, xx_rc]; show 2 * 0 + _ + _ ≤ R.locals; omega) hlocks
  obtain ⟨f1, f2⟩ := xw_only_new hsame
  rw [hhp] at f1 f2
  have hWs : s.WarmedH U.vm := State.WarmedH.trans hW0 hW
  have hcl : s.vm.findClass cls = some ce.cls := by
    have h9 := hO.cls
    rw [hvm] at h9
    exact h9
  have hall : s.sameButNew ({ U with vm := s.vm } : State) locs mc ms := by
    subst hs'
    obtain ⟨e1, e2⟩ := hsame
    unfold xw_now at e1
    rw [State.setFrames_setFrames] at e1
    have h2 : (T.setVm s.vm).sameButNew ({ U with vm := s.vm } : State) [] (0 + 1) (0 + 6) := ⟨e1, e2⟩
    have h3 := X.same.trans h2
    rw [List.append_nil] at h3
    exact h3.mono hc hs
  have hPU : va_P D xx_cls (Wd u) U.heap := hP.kept (fun k q hq => f2 q.1 (hP k q hq).lt)
  have hSU : va_F A s U := ⟨Nat.le_trans hS.1 f1, fun q h1 h2 => by rw [f2 q (Nat.lt_of_lt_of_le h1 hS.1)]; exact hS.2.1 q h1 h2⟩
  refine ⟨U, ?_, .threw T.heap.size, hrun, hend, Or.inr ⟨T.heap.size, cls, u, ce, rfl, hF, ⟨hPU, va_K.moved hWs.alike hK, hD⟩, hce, hO.vm, hcl⟩, hSU, hWs, locs, hall, hS.2.2⟩
  refine st1 _ ?_
  show Steps p.tables e below (T1.setTop { method := m, pc := pc + 3, locals := ls, stack := .ref T.heap.size :: rest, locked := none }) _
  jvm_step X₁.here [X₁.here.top, hexec, d3', Value.category]
  exact hsteps
end XT
