/-! a module comes in: its object, whom it needs -/
theorem rr_nst {u : zz_S} {b i a : Nat} {l : List Value} (hb : b ∈ u.2.2.2.2.1) (ha : a ∈ u.2.2.2.1.1) (hf : u.2.2.2.1.2 a = (9, l)) (hi : i < 8) : zz_ns u b (nI i) a = some (u.1, u.2.1, u.2.2.1, u.2.2.2.1, (u.2.2.2.2.1, va_up u.2.2.2.2.2 b (va_up (u.2.2.2.2.2 b) i (some a)))) := by
  unfold zz_ns
  rw [if_pos hb, rr_okp ha hf, Option.bind_some, rr_as hi (by decide), Option.bind_some]
/-- the fields of a new module's object -/
def rr_fl (x : Int32) (B σ b r0 γ : Nat) (e : Int32) (nd : Nat) (c : Nat) : List Value := [.int x, .int (nI B), .int (nI (4 * σ)), .int (nI b), .int e, .int (nI (4 * γ)), .int (nI r0), .int (nI (r0 + rr_rows (4 * σ))), .ref nd, .int (nI c)]
/-- the picture with a new object q and its array nd -/
def rr_nu (u : zz_S) (q nd : Nat) (l : List Value) (arr : Nat → Option Nat) : zz_S := (u.1, u.2.1, u.2.2.1, (u.2.2.2.1.1 ++ [q], va_up u.2.2.2.1.2 q (9, l)), (u.2.2.2.2.1 ++ [nd], va_up u.2.2.2.2.2 nd arr))
theorem rr_nuq {u : zz_S} {q nd : Nat} {l : List Value} {arr : Nat → Option Nat} : q ∈ (rr_nu u q nd l arr).2.2.2.1.1 ∧ (rr_nu u q nd l arr).2.2.2.1.2 q = (9, l) ∧ nd ∈ (rr_nu u q nd l arr).2.2.2.2.1 ∧ (rr_nu u q nd l arr).2.2.2.2.2 nd = arr := ⟨List.mem_append_right _ (List.mem_singleton.mpr rfl), rr_upS _ _ _, List.mem_append_right _ (List.mem_singleton.mpr rfl), rr_upS _ _ _⟩
theorem rr_nug {u : zz_S} {q nd : Nat} (hq : q ∉ u.2.2.2.1.1) (hn : nd ∉ u.2.2.2.2.1) (l : List Value) (arr : Nat → Option Nat) : rr_grow u (rr_nu u q nd l arr) := ⟨fun a ha => ⟨List.mem_append_left _ ha, rr_upN _ _ (fun e => hq (e ▸ ha))⟩, fun b hb => ⟨List.mem_append_left _ hb, rr_upN _ _ (fun e => hn (e ▸ hb))⟩⟩
def rr_m1 (u : zz_S) (q : Nat) (l : List Value) : zz_S := (u.1, u.2.1, u.2.2.1, (u.2.2.2.1.1 ++ [q], va_up u.2.2.2.1.2 q (9, l)), u.2.2.2.2)
theorem rr_m1m {u : zz_S} {q : Nat} {l : List Value} : q ∈ (rr_m1 u q l).2.2.2.1.1 := List.mem_append_right _ (List.mem_singleton.mpr rfl)
theorem rr_m1w {u : zz_S} {q k : Nat} {l l1 : List Value} {v : Value} {F : zz_S → Prop} (hk : k < l.length) (hl : l.set k v = l1) (h : F (rr_m1 u q l1)) : xw_b (zz_pw (rr_m1 u q l) q 9 k v) F := by
  refine ⟨_, rr_pw (l := l) rr_m1m (rr_upS _ _ _) hk, ?_⟩
  subst hl
  have e : ((rr_m1 u q l).1, (rr_m1 u q l).2.1, (rr_m1 u q l).2.2.1, ((rr_m1 u q l).2.2.2.1.1, va_up (rr_m1 u q l).2.2.2.1.2 q (9, l.set k v)), (rr_m1 u q l).2.2.2.2) = rr_m1 u q (l.set k v) := by
    show (u.1, u.2.1, u.2.2.1, (u.2.2.2.1.1 ++ [q], va_up (va_up u.2.2.2.1.2 q (9, l)) q (9, l.set k v)), u.2.2.2.2) = _
    rw [rr_upU]
    rfl
  rw [e]
  exact h
theorem rr_m1i {u : zz_S} {q k : Nat} {l : List Value} {x : Int32} {F : Int32 → Prop} (hl : l[k]? = some (.int x)) (h : F x) : xw_b (zz_pi (rr_m1 u q l) q 9 k) F := ⟨_, rr_pi (l := l) rr_m1m (rr_upS _ _ _) hl, h⟩
theorem rr_xcv {P : (Option Value → zz_S → Prop) → Prop} {f : zz_S → Prop} (h : P (fun rv u1 => rv = none ∧ f u1)) : xw_cv P f := h
theorem rr_wnn {α : Type} {x y : α} {F : α → Prop} (hx : x = y) (h : F y) : xw_n x F := by subst hx; exact h
theorem rr_init9 {u : zz_S} {q : Nat} (x : Int32) {B σ b γ r0 : Nat} {e : Int32} (hq : q ∉ u.2.2.2.1.1) (h5 : u.1 5 = nI (4 * σ)) (h7 : u.1 7 = nI b) (h10 : u.1 10 = e) (h11 : u.1 11 = nI (4 * γ)) (hB : B = 512 + 16 * r0) (hr : r0 ≤ 208) (hσ : σ ≤ 128) (f : zz_S → Prop) (hf : ∀ nd, nd ∉ u.2.2.2.2.1 → f (rr_nu u q nd (rr_fl x B σ b r0 γ e nd 0) (fun _ => none))) : xw_cv (fun Po => zp_LoadedModule_init Po (fun _ _ => False) (zz_more u q (9, [.int 0, .int 0, .int 0, .int 0, .int 0, .int 0, .int 0, .int 0, .null, .int 0])) q x (nI B)) f := by
  have e6 : (nI B - (512 : Int32)) / (16 : Int32) = nI r0 := by
    rw [hB]
    show (nI (512 + 16 * r0) - nI 512) / nI 16 = _
    rw [pk_sub (by omega), pk_div (by omega) (by decide) (by decide), show (512 + 16 * r0 - 512) / 16 = r0 by omega]
  have er : ∀ U : zz_S, U.1 = u.1 → zf_ModuleTable_rowsFor U (U.1 5) = some (nI (rr_rows (4 * σ)), U) := fun U hU => by
    rw [zf_ModuleTable_rowsFor, hU, h5, show (nI (4 * σ) + (16 : Int32)) - (1 : Int32) = nI (4 * σ + 15) from by rw [show nI (4 * σ) + (16 : Int32) = nI (4 * σ + 15 + 1) from nI_add (4 * σ) 16, nI_pred], show (16 : Int32) = nI 16 from rfl, pk_div (by omega) (by decide) (by decide)]
    rfl
  refine rr_xcv ?_
  rw [show zz_more u q (9, [.int 0, .int 0, .int 0, .int 0, .int 0, .int 0, .int 0, .int 0, .null, .int 0]) = rr_m1 u q [.int 0, .int 0, .int 0, .int 0, .int 0, .int 0, .int 0, .int 0, .null, .int 0] from rfl]
  unfold zp_LoadedModule_init
  refine rr_m1w (l1 := [.int x, .int 0, .int 0, .int 0, .int 0, .int 0, .int 0, .int 0, .null, .int 0]) (by simp) rfl ?_
  refine rr_m1w (l1 := [.int x, .int (nI B), .int 0, .int 0, .int 0, .int 0, .int 0, .int 0, .null, .int 0]) (by simp) rfl ?_
  refine rr_wnn (y := nI (4 * σ)) h5 ?_
  refine rr_m1w (l1 := [.int x, .int (nI B), .int (nI (4 * σ)), .int 0, .int 0, .int 0, .int 0, .int 0, .null, .int 0]) (by simp) rfl ?_
  refine rr_wnn (y := nI b) h7 ?_
  refine rr_m1w (l1 := [.int x, .int (nI B), .int (nI (4 * σ)), .int (nI b), .int 0, .int 0, .int 0, .int 0, .null, .int 0]) (by simp) rfl ?_
  refine rr_wnn (y := e) h10 ?_
  refine rr_m1w (l1 := [.int x, .int (nI B), .int (nI (4 * σ)), .int (nI b), .int e, .int 0, .int 0, .int 0, .null, .int 0]) (by simp) rfl ?_
  refine rr_wnn (y := nI (4 * γ)) h11 ?_
  refine rr_m1w (l1 := [.int x, .int (nI B), .int (nI (4 * σ)), .int (nI b), .int e, .int (nI (4 * γ)), .int 0, .int 0, .null, .int 0]) (by simp) rfl ?_
  refine rr_wnn (y := nI r0) e6 ?_
  refine rr_m1w (l1 := [.int x, .int (nI B), .int (nI (4 * σ)), .int (nI b), .int e, .int (nI (4 * γ)), .int (nI r0), .int 0, .null, .int 0]) (by simp) rfl ?_
  refine rr_m1i (x := nI r0) rfl ?_
  refine ⟨_, _, er _ rfl, ?_⟩
  refine rr_wnn (y := nI (r0 + rr_rows (4 * σ))) (nI_add _ _) ?_
  refine rr_m1w (l1 := [.int x, .int (nI B), .int (nI (4 * σ)), .int (nI b), .int e, .int (nI (4 * γ)), .int (nI r0), .int (nI (r0 + rr_rows (4 * σ))), .null, .int 0]) (by simp) rfl ?_
  intro nd hnd
  refine rr_wnn rfl ?_
  refine ⟨_, rr_pw (l := [.int x, .int (nI B), .int (nI (4 * σ)), .int (nI b), .int e, .int (nI (4 * γ)), .int (nI r0), .int (nI (r0 + rr_rows (4 * σ))), .null, .int 0]) rr_m1m (rr_upS _ _ _) (by simp), rfl, ?_⟩
  have h2 := hf nd hnd
  have e9 : rr_nu u q nd (rr_fl x B σ b r0 γ e nd 0) (fun _ => none) = ((zz_moreN (rr_m1 u q [.int x, .int (nI B), .int (nI (4 * σ)), .int (nI b), .int e, .int (nI (4 * γ)), .int (nI r0), .int (nI (r0 + rr_rows (4 * σ))), .null, .int 0]) nd).1, (zz_moreN (rr_m1 u q [.int x, .int (nI B), .int (nI (4 * σ)), .int (nI b), .int e, .int (nI (4 * γ)), .int (nI r0), .int (nI (r0 + rr_rows (4 * σ))), .null, .int 0]) nd).2.1, (zz_moreN (rr_m1 u q [.int x, .int (nI B), .int (nI (4 * σ)), .int (nI b), .int e, .int (nI (4 * γ)), .int (nI r0), .int (nI (r0 + rr_rows (4 * σ))), .null, .int 0]) nd).2.2.1, (u.2.2.2.1.1 ++ [q], va_up (va_up u.2.2.2.1.2 q (9, [.int x, .int (nI B), .int (nI (4 * σ)), .int (nI b), .int e, .int (nI (4 * γ)), .int (nI r0), .int (nI (r0 + rr_rows (4 * σ))), .null, .int 0])) q (9, [Value.int x, .int (nI B), .int (nI (4 * σ)), .int (nI b), .int e, .int (nI (4 * γ)), .int (nI r0), .int (nI (r0 + rr_rows (4 * σ))), .ref nd, .int 0])), (u.2.2.2.2.1 ++ [nd], va_up u.2.2.2.2.2 nd (fun _ => none))) := by
    rw [rr_upU]
    rfl
  rw [e9] at h2
  exact h2
theorem rr_fl8 {x : Int32} {B σ b r0 γ : Nat} {e : Int32} {nd c : Nat} : (rr_fl x B σ b r0 γ e nd c)[8]? = some (.ref nd) ∧ (rr_fl x B σ b r0 γ e nd c)[9]? = some (.int (nI c)) ∧ (rr_fl x B σ b r0 γ e nd c)[5]? = some (.int (nI (4 * γ))) ∧ (rr_fl x B σ b r0 γ e nd c)[1]? = some (.int (nI B)) ∧ 9 < (rr_fl x B σ b r0 γ e nd c).length ∧ ∀ c1, (rr_fl x B σ b r0 γ e nd c).set 9 (.int (nI c1)) = rr_fl x B σ b r0 γ e nd c1 := ⟨rfl, rfl, rfl, rfl, by simp [rr_fl], fun _ => rfl⟩
def rr_ad (ns : List Nat) (k : Nat) : List Nat := if k ∈ ns then ns else ns ++ [k]
theorem rr_need {u : zz_S} {φ : Nat → Nat} {ms ns : List Nat} {q nd k : Nat} {x : Int32} {B σ b r0 γ : Nat} {e : Int32} {arr : Nat → Option Nat} (hq : q ∉ u.2.2.2.1.1) (hi : ∀ a ∈ ms, ∀ b ∈ ms, φ a = φ b → a = b) (ho : ∀ k ∈ ms, ∃ l, φ k ∈ u.2.2.2.1.1 ∧ u.2.2.2.1.2 (φ k) = (9, l)) (hk : k ∈ ms) (hs : ∀ k ∈ ns, k ∈ ms) (hl : ns.length < 8) (ha : ∀ j (h : j < ns.length), arr j = some (φ ns[j])) : ∃ arr1, zf_LoadedModule_need (rr_nu u q nd (rr_fl x B σ b r0 γ e nd ns.length) arr) q (some (φ k)) = some (rr_nu u q nd (rr_fl x B σ b r0 γ e nd (rr_ad ns k).length) arr1) ∧ ∀ j (h : j < (rr_ad ns k).length), arr1 j = some (φ (rr_ad ns k)[j]) := by
  obtain ⟨n1, n2, n3, n4⟩ := rr_nuq (u := u) (q := q) (nd := nd) (l := rr_fl x B σ b r0 γ e nd ns.length) (arr := arr)
  obtain ⟨f8, f9, f5, f1, fL, fS⟩ := rr_fl8 (x := x) (B := B) (σ := σ) (b := b) (r0 := r0) (γ := γ) (e := e) (nd := nd) (c := ns.length)
  have hn := rr_needl (u := rr_nu u q nd (rr_fl x B σ b r0 γ e nd ns.length) arr) (φ := φ) (ms := ms) (ns := ns) (q := q) (nd := nd) (m := k) n1 n2 f8 f9 n3 (by omega) (fun j h => by rw [n4]; exact ha j h) hi hk hs ns.length 0 (4999 - ns.length) (by omega)
  rw [show 4999 - ns.length + ns.length + 1 = xx_fu by unfold xx_fu; omega, nI_0, List.drop_zero] at hn
  have hne : zf_LoadedModule_needs (rr_nu u q nd (rr_fl x B σ b r0 γ e nd ns.length) arr) q (some (φ k)) = some (rr_bi (decide (k ∈ ns)), rr_nu u q nd (rr_fl x B σ b r0 γ e nd ns.length) arr) := hn
  unfold zf_LoadedModule_need
  rw [rr_onS, rr_okp n1 n2, Option.bind_some, hne, rr_b2s]
  by_cases c : k ∈ ns
  · rw [decide_eq_true c, if_neg (by decide)]
    have e1 : rr_ad ns k = ns := if_pos c
    rw [e1]
    exact ⟨arr, rfl, ha⟩
  · rw [decide_eq_false c, if_pos rr_bif]
    have e1 : rr_ad ns k = ns ++ [k] := if_neg c
    obtain ⟨l, o1, o2⟩ := ho k hk
    have hkq : φ k ≠ q := fun z => hq (z ▸ o1)
    have o1' : φ k ∈ (rr_nu u q nd (rr_fl x B σ b r0 γ e nd ns.length) arr).2.2.2.1.1 := List.mem_append_left _ o1
    have o2' : (rr_nu u q nd (rr_fl x B σ b r0 γ e nd ns.length) arr).2.2.2.1.2 (φ k) = (9, l) := (rr_upN _ _ hkq).trans o2
    have el : (ns ++ [k]).length = ns.length + 1 := by rw [List.length_append]; rfl
    refine ⟨va_up arr ns.length (some (φ k)), ?_, ?_⟩
    · have hnl : zz_nl (rr_nu u q nd (rr_fl x B σ b r0 γ e nd ns.length) arr) nd = some 8 := by
        unfold zz_nl
        rw [if_pos n3]
      rw [rr_pi n1 n2 f9, Option.bind_some, rr_pr n1 n2 f8, Option.bind_some, hnl, Option.bind_some, if_neg (show ¬ (8 : Int32) ≤ nI ns.length from nI_ge (b := 8) hl (by decide)), Option.bind_some, Option.bind_some, rr_nst n3 o1' o2' hl, Option.bind_some, n4]
      have e2 : ((rr_nu u q nd (rr_fl x B σ b r0 γ e nd ns.length) arr).1, (rr_nu u q nd (rr_fl x B σ b r0 γ e nd ns.length) arr).2.1, (rr_nu u q nd (rr_fl x B σ b r0 γ e nd ns.length) arr).2.2.1, (rr_nu u q nd (rr_fl x B σ b r0 γ e nd ns.length) arr).2.2.2.1, (rr_nu u q nd (rr_fl x B σ b r0 γ e nd ns.length) arr).2.2.2.2.1, va_up (rr_nu u q nd (rr_fl x B σ b r0 γ e nd ns.length) arr).2.2.2.2.2 nd (va_up arr ns.length (some (φ k)))) = rr_nu u q nd (rr_fl x B σ b r0 γ e nd ns.length) (va_up arr ns.length (some (φ k))) := by
        show (u.1, u.2.1, u.2.2.1, _, u.2.2.2.2.1 ++ [nd], va_up (va_up u.2.2.2.2.2 nd arr) nd _) = _
        rw [rr_upU]
        rfl
      rw [e2]
      obtain ⟨m1, m2, m3, m4⟩ := rr_nuq (u := u) (q := q) (nd := nd) (l := rr_fl x B σ b r0 γ e nd ns.length) (arr := va_up arr ns.length (some (φ k)))
      rw [rr_pi m1 m2 f9, Option.bind_some, rr_nm, nI_1, rr_pw m1 m2 fL, Option.bind_some, fS, e1, el]
      show some (u.1, u.2.1, u.2.2.1, (u.2.2.2.1.1 ++ [q], va_up (va_up u.2.2.2.1.2 q _) q _), _) = _
      rw [rr_upU]
      rfl
    · rw [e1]
      intro j hj
      rw [el] at hj
      by_cases ej : j = ns.length
      · subst ej
        rw [rr_upS, List.getElem_append_right (Nat.le_refl _)]
        simp
      · rw [rr_upN _ _ ej, List.getElem_append_left (by omega)]
        exact ha j (by omega)
def rr_ni (w : qm_S) (φ : Nat → Nat) (ms : List Nat) (m i : Nat) (ns : List Nat) (arr : Nat → Option Nat) (nr : Nat → Int32) : Prop := ns.Nodup ∧ ns.length ≤ i ∧ (∀ k ∈ ns, k ∈ ms) ∧ (∀ j (h : j < ns.length), arr j = some (φ ns[j])) ∧ (∀ k, k < 12 → nr (12 * m + k) = if k ∈ ns then 1 else 0) ∧ ∀ i, i < 12 * m ∨ 12 * m + 12 ≤ i → nr i = w.2 12 i
def rr_re (Po : Option Value → zz_S → Prop) (Px : String → zz_S → Prop) (x2 : Int32) (q : Nat) (U : zz_S) : Prop := xw_b (zz_pi U q 9 5) fun v1 => xw_b (zf_Memory_guard U x2 v1 (1 : Int32)) fun u2 => xw_n (0 : Int32) fun v3 => zp_Loader_enter_b87 Po Px xx_fu 0 u2 x2 q v3
theorem rr_nel {u : zz_S} {w : qm_S} {φ : Nat → Nat} {ms : List Nat} {W T : Nat → Int32} {S N σ a b c m q nd B r0 γ : Nat} {x e : Int32} (hB : rr_B u w φ ms S) (hb : rr_fb σ a b c) (hz : rr_hz u σ a b c) (hqh : rr_hq w σ a b c) (ht : rr_tw T (w.2 13) N) (hN : N ≤ 1200) (hn : N = 4 * (8 + σ + 2 * a + 3 * b + 4 * c)) (hT : ∀ i, 8 + σ ≤ i → T i = u.2.1 3 i) (hf : ∀ j, j < a → ∃ k, k < S ∧ w.2 2 k = u.2.1 3 (8 + σ + 2 * j)) (hq : q ∉ u.2.2.2.1.1) (hnd : nd ∉ u.2.2.2.2.1) (hi : ∀ a ∈ ms, ∀ b ∈ ms, φ a = φ b → a = b) (ho : ∀ k ∈ ms, ∃ l, φ k ∈ u.2.2.2.1.1 ∧ u.2.2.2.1.2 (φ k) = (9, l)) (h12 : ∀ k ∈ ms, k < 12) (hm : m < 12) (Po : Option Value → zz_S → Prop) (Px : String → zz_S → Prop) (x2 x3 x4 : Int32) : ∀ (d i n : Nat) (ns : List Nat) (arr : Nat → Option Nat) (nr : Nat → Int32), i + d = a → rr_ni w φ ms m i ns arr nr → ∃ ns1 arr1 nr1, rr_ni w φ ms m a ns1 arr1 nr1 ∧ qf_Model_bring_b132 (n + d + 1) (w.1, va_up w.2 12 nr) (nI m) x3 x4 (nI i) = qf_Model_bring_b189 xx_fu (w.1, va_up w.2 12 nr1) (nI m) x3 x4 0 ∧ (rr_re Po Px x2 q (rr_nu u q nd (rr_fl x B σ b r0 γ e nd ns1.length) arr1) → zp_Loader_enter_b17 Po Px (n + d + 1) (rr_nu u q nd (rr_fl x B σ b r0 γ e nd ns.length) arr) x2 q (nI i)) := by
  have hb0 := hb
  obtain ⟨b1, b2, b3, b4, b5⟩ := hb
  intro d
  induction d with
  | zero =>
    intro i n ns arr nr h hI
    have ei : i = a := by omega
    subst ei
    refine ⟨ns, arr, nr, hI, ?_, fun hR => ?_⟩
    · rw [qf_Model_bring_b132, if_pos (by show w.1 23 ≤ nI i; rw [hqh.2.1]; exact nI_le (Nat.le_refl _) (by omega)), rr_nm]
    · rw [zp_Loader_enter_b17]
      refine ⟨fun _ => hR, fun h => absurd ?_ h⟩
      show u.1 6 ≤ nI i
      rw [hz.2.1]
      exact nI_le (Nat.le_refl _) (by omega)
  | succ d ih =>
    intro i n ns arr nr h hI
    have hia : i < a := by omega
    obtain ⟨i1, i2, i3, i4, i5, i6⟩ := hI
    obtain ⟨U, hU⟩ : ∃ U, U = rr_nu u q nd (rr_fl x B σ b r0 γ e nd ns.length) arr := ⟨_, rfl⟩
    have hg : rr_grow u U := by rw [hU]; exact rr_nug hq hnd _ _
    have hBU : rr_B U (w.1, va_up w.2 12 nr) φ ms S := by
      refine ⟨hB.1, by rw [hU]; exact hB.2.1, hB.2.2.1, fun k hk => rr_Yg hg (by rw [hU]; rfl) rfl rfl rfl rfl (hB.2.2.2 k hk)⟩
    have hzU : rr_hz U σ a b c := by rw [hU]; exact hz
    have hWU : U.2.1 3 = u.2.1 3 := by rw [hU]; rfl
    obtain ⟨x1, -⟩ := rr_zin hzU (i := i) (by omega)
    rw [hWU] at x1
    have hcz : ¬ U.1 6 ≤ nI i := by rw [hzU.2.1]; exact nI_ge hia (by omega)
    have hS := hB.1
    rcases rr_find hBU (u.2.1 3 (8 + σ + 2 * i)) with ⟨j, h1, h2, h3, h4⟩ | ⟨h1, h3, h4⟩
    · obtain ⟨p, ow, y1, y2, y3, y4⟩ := hBU.2.2.2 j h1
      have st : qf_Model_bring_b132 (n + (d + 1) + 1) (w.1, va_up w.2 12 nr) (nI m) x3 x4 (nI i) = if w.2 5 j < 0 then qf_Model_bring_b132 (n + d + 1) (w.1, va_up w.2 12 nr) (nI m) x3 x4 (nI (i + 1)) else ((xx_as nr 144 (((12 : Int32) * nI m) + w.2 5 j) 1).bind fun f9 => qf_Model_bring_b132 (n + d + 1) (w.1, va_up w.2 12 f9) (nI m) x3 x4 (nI (i + 1))) := by
        rw [qf_Model_bring_b132, if_neg (by show ¬ w.1 23 ≤ nI i; rw [hqh.2.1]; exact nI_ge hia (by omega)), rr_imA (w := (w.1, va_up w.2 12 nr)) hqh, rr_b2s, rr_tq (w := (w.1, va_up w.2 12 nr)) ht hN (by omega), rr_b2s, hT _ (by omega), h4, rr_b2s, rr_ag (by omega) (by decide), Option.bind_some, rr_nb1, qf_Model_bring_b180, rr_nm, nI_1]
        have e1 : ∀ f9, (xx_nm ((w.1, va_up w.2 12 nr).1, va_up ((w.1, va_up w.2 12 nr) : qm_S).2 12 f9) fun u10 => qf_Model_bring_b180 (qf_Model_bring_b132 (n + (d + 1))) u10 (nI m) x3 x4 (nI i)) = qf_Model_bring_b132 (n + d + 1) (w.1, va_up w.2 12 f9) (nI m) x3 x4 (nI (i + 1)) := fun f9 => by
          rw [rr_nm, qf_Model_bring_b180, rr_nm, nI_1]
          show qf_Model_bring_b132 _ (w.1, va_up (va_up w.2 12 nr) 12 f9) _ _ _ _ = _
          rw [rr_upU]
          rfl
        simp only [e1]
        rfl
      have zst : ∀ U1, zf_LoadedModule_need U q ow = some U1 → zp_Loader_enter_b17 Po Px (n + d + 1) U1 x2 q (nI (i + 1)) → zp_Loader_enter_b17 Po Px (n + (d + 1) + 1) U x2 q (nI i) := fun U1 hn1 hr => by
        rw [zp_Loader_enter_b17]
        refine ⟨fun h => absurd h hcz, fun _ => ⟨_, _, x1, _, _, h3, fun h => ?_, fun a8 h => ?_⟩⟩
        · rw [y1] at h; cases h
        · rw [y1] at h
          cases h
          refine ⟨ow, rr_pq (a := ow) y2 y3 rfl, ?_⟩
          obtain ⟨n1, n2, -, -⟩ := rr_nuq (u := u) (q := q) (nd := nd) (l := rr_fl x B σ b r0 γ e nd ns.length) (arr := arr)
          rw [← hU] at n1 n2
          refine ⟨(), rr_okp n1 n2, U1, hn1, ?_⟩
          show zp_Loader_enter_b17 Po Px (n + d + 1) U1 x2 q (nI i + 1)
          rw [nI_1]
          exact hr
      rcases y4 with ⟨y4, y5⟩ | ⟨k, hk, y4, y5⟩
      · obtain ⟨ns1, arr1, nr1, g1, g2, g3⟩ := ih (i + 1) n ns arr nr (by omega) ⟨i1, by omega, i3, i4, i5, i6⟩
        refine ⟨ns1, arr1, nr1, g1, ?_, fun hR => ?_⟩
        · rw [st, if_pos (by rw [show w.2 5 j = -1 from y4]; decide), g2]
        · rw [← hU]
          refine zst U ?_ (by rw [hU]; exact g3 hR)
          rw [y5, zf_LoadedModule_need, rr_on0]
          rfl
      · have hk12 := h12 k hk
        obtain ⟨arr2, z1, z2⟩ := rr_need (u := u) (φ := φ) (ms := ms) (ns := ns) (q := q) (nd := nd) (k := k) (x := x) (B := B) (σ := σ) (b := b) (r0 := r0) (γ := γ) (e := e) (arr := arr) hq hi ho hk i3 (by omega) i4
        have hI2 : rr_ni w φ ms m (i + 1) (rr_ad ns k) arr2 (va_up nr (12 * m + k) 1) := by
          have hmem : ∀ t, t ∈ rr_ad ns k ↔ t ∈ ns ∨ t = k := fun t => by
            unfold rr_ad
            by_cases cc : k ∈ ns
            · rw [if_pos cc]
              exact ⟨Or.inl, fun z => z.elim id (fun e => e ▸ cc)⟩
            · rw [if_neg cc, List.mem_append, List.mem_singleton]
          refine ⟨?_, ?_, fun t ht => ?_, z2, fun t ht => ?_, fun t ht => ?_⟩
          · unfold rr_ad
            by_cases cc : k ∈ ns
            · rw [if_pos cc]; exact i1
            · rw [if_neg cc, List.nodup_append]
              refine ⟨i1, by simp, fun a ha b hb => ?_⟩
              rw [List.mem_singleton] at hb
              rw [hb]
              exact fun z => cc (z ▸ ha)
          · unfold rr_ad
            by_cases cc : k ∈ ns
            · rw [if_pos cc]; omega
            · rw [if_neg cc, List.length_append]; simp; omega
          · rcases (hmem t).mp ht with z | z
            · exact i3 t z
            · rw [z]; exact hk
          · by_cases et : t = k
            · rw [et, rr_upS, if_pos ((hmem k).mpr (Or.inr rfl))]
            · rw [rr_upN _ _ (by omega), i5 t ht]
              by_cases cc : t ∈ ns
              · rw [if_pos cc, if_pos ((hmem t).mpr (Or.inl cc))]
              · rw [if_neg cc, if_neg (fun z => ((hmem t).mp z).elim cc et)]
          · rw [rr_upN _ _ (by omega)]
            exact i6 t ht
        obtain ⟨ns1, arr1, nr1, g1, g2, g3⟩ := ih (i + 1) n (rr_ad ns k) arr2 (va_up nr (12 * m + k) 1) (by omega) hI2
        refine ⟨ns1, arr1, nr1, g1, ?_, fun hR => ?_⟩
        · rw [st, show w.2 5 j = nI k from y4, if_neg (nI_pos (by omega)), show (12 : Int32) * nI m = nI (12 * m) from pk_mul 12 m, nI_add, rr_as (by omega) (by decide), Option.bind_some, g2]
        · rw [← hU]
          refine zst _ ?_ (g3 hR)
          rw [y5, hU]
          exact z1
    · obtain ⟨j, h5, h6⟩ := hf i hia
      exact absurd h6 (h1 j h5)
