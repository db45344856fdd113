/-! load -/
theorem rr_frN (l : List Nat) : ∃ q, q ∉ l := by
  have h : ∀ l : List Nat, ∃ b, ∀ a ∈ l, a ≤ b := by
    intro l
    induction l with
    | nil => exact ⟨0, fun a h => by simp at h⟩
    | cons x l ih =>
      obtain ⟨b, hb⟩ := ih
      refine ⟨max x b, fun a ha => ?_⟩
      rcases List.mem_cons.mp ha with e | e
      · omega
      · have := hb a e
        omega
  obtain ⟨b, hb⟩ := h l
  exact ⟨b + 1, fun z => absurd (hb _ z) (by omega)⟩
theorem rr_unn {α : Type} {x : α} {F : α → Prop} (h : xw_n x F) : F x := h
theorem rr_pP1 {P : Prop} {Po : Option Value → zz_S → Prop} {Px : String → zz_S → Prop} (hP : ∀ rv u, Po rv u → P) : ∀ (n k : Nat) (u : zz_S) (x2 : Int32) (x3 : Nat) (x4 : Int32), zp_Loader_enter_b87 Po Px n k u x2 x3 x4 → P := by
  intro n
  induction n with
  | zero => intro k u x2 x3 x4 h; exact h.elim
  | succ n ih =>
    intro k u x2 x3 x4 h
    rw [zp_Loader_enter_b87] at h
    obtain ⟨-, h1, h2⟩ := h
    by_cases c : u.1 7 ≤ x4
    · obtain ⟨u1, -, h3⟩ := h1 c
      exact hP _ _ h3
    · obtain ⟨-, h3⟩ := h2 c
      obtain ⟨q, hq⟩ := rr_frN u.2.2.2.1.1
      obtain ⟨_, _, -, _, _, -, _, _, -, _, -, _, -, h4⟩ := h3 q hq
      exact ih _ _ _ _ _ h4
theorem rr_pP2 {P : Prop} {Po : Option Value → zz_S → Prop} {Px : String → zz_S → Prop} (hP : ∀ rv u, Po rv u → P) : ∀ (n : Nat) (u : zz_S) (x2 : Int32) (x3 : Nat) (x4 : Int32), zp_Loader_enter_b17 Po Px n u x2 x3 x4 → P := by
  intro n
  induction n with
  | zero => intro u x2 x3 x4 h; exact h.elim
  | succ n ih =>
    intro u x2 x3 x4 h
    rw [zp_Loader_enter_b17] at h
    obtain ⟨h1, h2⟩ := h
    by_cases c : u.1 6 ≤ x4
    · obtain ⟨_, -, _, -, h3⟩ := h1 c
      exact rr_pP1 hP _ _ _ _ _ _ (rr_unn h3)
    · obtain ⟨v5, u4, -, v7, u6, -, h3, h4⟩ := h2 c
      cases hv : v7 with
      | none =>
        obtain ⟨_, -, _, -, h5⟩ := h3 hv
        exact ih _ _ _ _ h5
      | some a8 =>
        obtain ⟨_, -, _, -, _, -, h5⟩ := h4 a8 hv
        exact ih _ _ _ _ h5
theorem rr_pP3 {P : Prop} {Po : Option Value → zz_S → Prop} {Px : String → zz_S → Prop} (hP : ∀ rv u, Po rv u → P) (u : zz_S) (x0 : Nat) (x1 x2 : Int32) (h : zp_LoadedModule_init Po Px u x0 x1 x2) : P := by
  unfold zp_LoadedModule_init at h
  obtain ⟨_, -, h⟩ := h
  obtain ⟨_, -, h⟩ := h
  obtain ⟨_, -, h⟩ := h
  obtain ⟨_, -, h⟩ := h
  obtain ⟨_, -, h⟩ := h
  obtain ⟨_, -, h⟩ := h
  obtain ⟨_, -, h⟩ := h
  obtain ⟨_, -, h⟩ := h
  obtain ⟨_, _, -, h⟩ := h
  obtain ⟨_, -, h⟩ := h
  obtain ⟨q, hq⟩ := rr_frN _
  obtain ⟨_, -, h⟩ := h q hq
  exact hP _ _ h
theorem rr_ucv {P : (Option Value → zz_S → Prop) → Prop} {f : zz_S → Prop} (h : xw_cv P f) : P (fun rv u1 => rv = none ∧ f u1) := h
theorem rr_pP {P : Prop} {u : zz_S} {x1 x2 : Int32} (h : xw_cq (fun Po => zp_Loader_enter Po (fun _ _ => False) u x1 x2) (fun _ _ => P)) : P := by
  have h1 : zp_Loader_enter (fun rv u1 => ∃ r, rv = some (va_rf r) ∧ P) (fun _ _ => False) u x1 x2 := h
  unfold zp_Loader_enter at h1
  obtain ⟨q, hq⟩ := rr_frN u.2.2.2.1.1
  have h2 := rr_ucv (rr_unn (h1 q hq))
  exact rr_pP3 (fun rv u1 hh => rr_pP2 (fun rv u h => h.choose_spec.2) _ _ _ _ _ (rr_unn hh.2)) _ _ _ _ h2
theorem rr_rb {u u1 : zz_S} {w w1 : qm_S} {φ : Nat → Nat} {ms : List Nat} {S : Nat} {r Z G : Nat → Nat} (hM : rr_M u w) (hRg : rr_R u w) (hS : rr_S u w) (hE : rr_E u w φ ms S r Z G) (e2 : u1.2 = u.2) (ek : ∀ k, k = 0 ∨ k = 15 ∨ k = 16 → u1.1 k = u.1 k) (q2 : w1.2 = w.2) (qk : ∀ k, k = 2 ∨ k = 3 → w1.1 k = w.1 k) : rr_M u1 w1 ∧ rr_R u1 w1 ∧ rr_S u1 w1 ∧ rr_E u1 w1 φ ms S r Z G := by
  refine ⟨?_, ?_, ⟨?_, ?_⟩, rr_Et hE (ek 0 (Or.inl rfl)) (ek 15 (Or.inr (Or.inl rfl))) (ek 16 (Or.inr (Or.inr rfl))) (by rw [e2]) (by rw [e2]) (qk 3 (Or.inr rfl)) (fun k _ _ => by rw [q2])⟩
  · unfold rr_M; rw [e2, q2]; exact hM
  · unfold rr_R; rw [e2, q2]; exact hRg
  · rw [ek 0 (Or.inl rfl), qk 2 (Or.inl rfl)]; exact hS.1
  · rw [ek 0 (Or.inl rfl)]; exact hS.2
/-- what the class does with what came in -/
def rr_K (Po : Option Value → zz_S → Prop) (Px : String → zz_S → Prop) (x2 : Int32) (v7 : Option Nat) (u6 : zz_S) : Prop := xw_b (zf_Tape_clear u6) fun u8 => (v7 = none → (zp_Loader_load_b81 Po Px u8 v7)) ∧ (∀ a9 : Nat, v7 = some a9 → (((u8.1 9) = (-1 : Int32) → (zp_Loader_load_b81 Po Px u8 v7)) ∧ (¬ (u8.1 9) = (-1 : Int32) → (xw_b (zz_pi u8 a9 9 1) fun v10 => xw_b (zf_Loader_execute u8 (v10 + (u8.1 9)) (0 : Int32) (0 : Int32) x2) fun u11 => xw_b (zf_Loader_judgeInit u11 v7) fun u12 => zp_Loader_load_b81 Po Px u12 v7))))
theorem rr_b81 {u : zz_S} {w : qm_S} {φ : Nat → Nat} {ms : List Nat} {S n m F : Nat} {r Z G : Nat → Nat} {x : Int32} (hM : rr_M u w) (hRg : rr_R u w) (hS : rr_S u w) (hE : rr_E u w φ ms S r Z G) (hF : rr_F u w) (hu4 : u.1 4 = nI n) (hn : n ≤ 1200) (ht : rr_tw (u.2.1 3) (w.2 13) n) (h15 : w.1 15 = 0) (h0 : w.1 0 = 2) (h17 : w.1 17 = 0) (h18 : w.1 18 = -1) (h19 : w.1 19 = 0) (h20 : w.1 20 = 0) (hF2 : F ≤ 2000) (m1 : m ≤ 12) (m2 : m ∉ ms) (m3 : ∀ j, j < m → j ∈ ms) : ∃ (a : Int32) (w2 : qm_S), qf_Model_load_b81 w x (nI F) (nI n) (nI m) = some (a, w2) ∧ ∀ (Po : Option Value → zz_S → Prop) (Px : String → zz_S → Prop), (∀ u1, w2.1 0 = 0 → rr_Rel u1 w2 → Po (some (.int a)) u1) → (∀ u1, w2.1 0 = 2 → rr_Rel u1 w2 → Px "java/lang/IllegalStateException" u1) → xw_cq (fun Po => zp_Loader_bringIn Po (fun _ _ => False) u x) (rr_K Po Px (nI F)) := by
  have z17 : u.1 17 = 0 := hF.1.symm.trans h17
  obtain ⟨Bl, u1, w1, e1, e2, f1, f2, f3, f4, f5⟩ := rr_read hu4 hn ht
  have hF1 : rr_F u1 w1 := by
    unfold rr_F
    rw [f3 17 (by omega), f3 18 (by omega), f3 19 (by omega), f3 20 (by omega), f3 21 (by omega), f4 17 (by omega), f4 18 (by omega), f4 19 (by omega), f4 20 (by omega), f4 21 (by omega)]
    exact hF
  have hk1 : ∀ k, k = 0 ∨ k = 15 ∨ k = 16 → u1.1 k = u.1 k := fun k hk => f3 k (by omega)
  have hq1 : ∀ k, k = 2 ∨ k = 3 → w1.1 k = w.1 k := fun k hk => f4 k (by omega)
  have z171 : u1.1 17 = 0 := (f3 17 (by omega)).trans z17
  have bad : ∀ (f y : Int32) (t1 : Nat → Int32), ¬ f ≤ 0 → ¬ f = 0 → (∃ (a : Int32) (w2 : qm_S), qf_Model_load_b180 (rr_qb (w1.1, va_up w1.2 13 t1) f y) (nI m) = some (a, w2) ∧ (∀ (Po : Option Value → zz_S → Prop) (Px : String → zz_S → Prop), (∀ u1, w2.1 0 = 0 → rr_Rel u1 w2 → Po (some (.int a)) u1) → (∀ u1, w2.1 0 = 2 → rr_Rel u1 w2 → Px "java/lang/IllegalStateException" u1) → rr_K Po Px (nI F) none (rr_zb u1 f y))) := fun f y t1 hf1 hf2 => by
    refine ⟨0, rr_qb (w1.1, va_up w1.2 13 t1) f y, ?_, fun Po Px g0 g2 => ⟨_, rfl, fun _ => ⟨fun _ => ?_, fun _ h => (by cases h)⟩, fun _ h => (by cases h)⟩⟩
    · unfold qf_Model_load_b180
      rw [if_neg (show ¬ (rr_qb (w1.1, va_up w1.2 13 t1) f y).1 17 ≤ 0 from hf1)]
    · refine g2 _ ?_ ?_
      · show w1.1 0 = 2
        rw [f4 0 (by omega)]
        exact h0
      · obtain ⟨r1, r2, r3, r4⟩ := rr_rb (u1 := (va_up (rr_zb u1 f y).1 4 0, u1.2)) (w1 := rr_qb w1 f y) hM hRg hS hE f1 (fun k hk => by
          show va_up (va_up (va_up u1.1 17 f) 18 y) 4 0 k = _
          rw [rr_upN _ _ (by omega), rr_upN _ _ (by omega), rr_upN _ _ (by omega), hk1 k hk]) f2 (fun k hk => by
          show va_up (va_up w1.1 17 f) 18 y k = _
          rw [rr_upN _ _ (by omega), rr_upN _ _ (by omega), hq1 k hk])
        have hw15 : w1.1 15 = 0 := (f4 15 (by omega)).trans h15
        exact rr_R0E (w := rr_qb (w1.1, va_up w1.2 13 t1) f y) (φ := φ) (ms := ms) (S := S) (r := r) (Z := Z) (G := G) ⟨r1, r2, ⟨rfl, rfl, hF1.2.2.1, hF1.2.2.2.1, hF1.2.2.2.2⟩, ⟨0, Nat.zero_le _, rfl, hw15, fun a h => absurd h (by omega), fun j h => absurd rfl h⟩, r3⟩ r4
  unfold qf_Model_load_b81
  rw [e2, rr_b2s]
  cases Bl
  · obtain ⟨a, w2, a1, a2⟩ := bad 1 (-1) (w1.2 13) (by decide) (by decide)
    rw [rr_upI] at a1
    refine ⟨a, w2, ?_, fun Po Px g0 g2 => ?_⟩
    · rw [if_pos rr_bif, rr_wrong, rr_b2s]
      exact a1
    · refine rr_xcq ?_
      unfold zp_Loader_bringIn
      exact ⟨_, _, e1, fun _ => ⟨_, rr_blame _ _ _, none, rfl, a2 Po Px g0 g2⟩, fun h => absurd rr_bif h⟩
  rw [if_neg (by decide)]
  obtain ⟨σ, a, b, c, γ, hff⟩ := f5 rfl
  have hff0 := hff
  obtain ⟨hb, hγ, hz, hq, hN, ⟨y9, y27, y10, y28, y11, y29⟩, hi5, hi6, hfi, hfe, hfp⟩ := hff
  obtain ⟨r1, r2, r3, hE1⟩ := rr_rb (u1 := u1) (w1 := w1) hM hRg hS hE f1 hk1 f2 hq1
  have hE1' := hE1
  obtain ⟨hG1, hL1, hN1, hD1, hB1⟩ := hE1
  have hl12 := rr_len hL1
  have hW : u1.2.1 3 = u.2.1 3 := by rw [f1]
  have ht1 : rr_tw (u1.2.1 3) (w1.2 13) n := by rw [hW, f2]; exact ht
  rw [← hW] at hfp hff0 y9 y27
  have zfin : ∀ (Po : Option Value → zz_S → Prop) (Px : String → zz_S → Prop) (uf : zz_S), zf_Loader_checkNames u1 x = some uf → ¬ uf.1 17 = 0 → rr_K Po Px (nI F) none uf → xw_cq (fun Po => zp_Loader_bringIn Po (fun _ _ => False) u x) (rr_K Po Px (nI F)) := fun Po Px uf hc h17 hk => by
    refine rr_xcq ?_
    unfold zp_Loader_bringIn
    refine ⟨_, _, e1, fun h => absurd h (by decide), fun _ => ⟨uf, hc, _, _, rr_hasF uf, fun h => absurd h (by rw [if_neg h17]; decide), fun _ => ?_⟩⟩
    exact ⟨_, _, rr_hasF uf, fun h => absurd h (by rw [if_neg h17]; decide), fun _ => ⟨none, rfl, hk⟩⟩
  have zb17 : ∀ {f y : Int32}, ¬ f = 0 → ¬ (rr_zb u1 f y).1 17 = 0 := fun {f y} h => h
  have two : (∃ (a : Int32) (w2 : qm_S), qf_Model_load_b114 w1 (nI m) = some (a, w2) ∧ (∀ (Po : Option Value → zz_S → Prop) (Px : String → zz_S → Prop), (∀ u1, w2.1 0 = 0 → rr_Rel u1 w2 → Po (some (.int a)) u1) → (∀ u1, w2.1 0 = 2 → rr_Rel u1 w2 → Px "java/lang/IllegalStateException" u1) → rr_K Po Px (nI F) none (rr_zb u1 2 (-1)))) := by
    obtain ⟨a, w2, a1, a2⟩ := bad 2 (-1) (w1.2 13) (by decide) (by decide)
    rw [rr_upI] at a1
    refine ⟨a, w2, ?_, a2⟩
    unfold qf_Model_load_b114
    rw [rr_wrong, rr_b2s]
    exact a1
  rcases rr_modf hL1 hD1 x with ⟨k, hk, h2, h3, h4⟩ | ⟨hx, h3, h4⟩
  · have hk12 := ((hL1.1 k).mp hk).1
    obtain ⟨a', w2, a1, a2⟩ := two
    refine ⟨a', w2, ?_, fun Po Px g0 g2 => zfin Po Px (rr_zb u1 2 (-1)) ?_ (zb17 (by decide)) (a2 Po Px g0 g2)⟩
    · rw [h4, rr_b2s, if_pos (show (0 : Int32) ≤ nI k from nI_pos' (by omega))]
      exact a1
    · unfold zf_Loader_checkNames
      rw [h3, rr_b2s, rr_onS]
      rfl
  rw [h4, rr_b2s, if_neg (by decide)]
  by_cases cm : m = 12
  · obtain ⟨a', w2, a1, a2⟩ := two
    refine ⟨a', w2, ?_, fun Po Px g0 g2 => zfin Po Px (rr_zb u1 2 (-1)) ?_ (zb17 (by decide)) (a2 Po Px g0 g2)⟩
    · rw [if_pos (show nI m = (12 : Int32) by rw [cm]; rfl)]
      exact a1
    · have hl : ms.length = 12 := (rr_full hL1 m1 m2 m3).mpr cm
      unfold zf_Loader_checkNames zf_ModuleTable_isFull
      rw [h3, rr_b2s, rr_on0, hD1.1, hl, if_pos (show nI 12 = (12 : Int32) from rfl), zf_ModuleTable_isFull_b14, rr_nb1, rr_b2s, if_neg (by decide)]
      rfl
  have hm12 : m < 12 := by omega
  have hlen : ms.length < 12 := by
    have : ¬ ms.length = 12 := fun z => cm ((rr_full hL1 m1 m2 m3).mp z)
    omega
  rw [if_neg (show ¬ nI m = (12 : Int32) from fun z => cm ((nI_eq (b := 12) (by omega) (by decide)).mp z))]
  have hcn : zf_Loader_checkNames u1 x = (zf_Loader_checkImports u1).bind fun u6 => xx_b2 (zf_Report_hasFault u6) fun v8 u7 => if v8 = 0 then ((zf_Loader_checkExports u7).bind fun u9 => zf_Loader_checkNames_b49 u9) else (zf_Loader_checkNames_b49 u7) := by
    unfold zf_Loader_checkNames zf_ModuleTable_isFull
    rw [h3, rr_b2s, rr_on0, hD1.1, if_neg (show ¬ nI ms.length = (12 : Int32) from fun z => by have := (nI_eq (b := 12) (by omega) (by decide)).mp z; omega), zf_ModuleTable_isFull_b14, rr_nb0, rr_b2s, if_pos rfl]
  rcases (rr_im hB1 hb hz hq ht1 hn hN).symm with ⟨f, y, g1, g2, i1, i2⟩ | ⟨i1, i2, hf⟩
  · obtain ⟨a', w2, a1, a2⟩ := bad f y (w1.2 13) g1 g2
    rw [rr_upI] at a1
    refine ⟨a', w2, ?_, fun Po Px g0 g3 => zfin Po Px (rr_zb u1 f y) ?_ (zb17 g2) (a2 Po Px g0 g3)⟩
    · rw [i2, rr_b2s, if_neg (by decide)]
      exact a1
    · rw [hcn, i1, Option.bind_some, rr_hasF, rr_b2s, if_neg (zb17 g2), if_neg (by decide)]
      rfl
  rw [i2, rr_b2s, if_pos rfl]
  rcases (rr_ex hB1 hb hz hq ht1 hn hN).symm with ⟨f, y, g1, g2, j1, j2⟩ | ⟨j1, j2, hSb⟩
  · obtain ⟨a', w2, a1, a2⟩ := bad f y (w1.2 13) g1 g2
    rw [rr_upI] at a1
    refine ⟨a', w2, ?_, fun Po Px g0 g3 => zfin Po Px (rr_zb u1 f y) ?_ (zb17 g2) (a2 Po Px g0 g3)⟩
    · rw [j2, rr_b2s, if_neg (by decide)]
      exact a1
    · rw [hcn, i1, Option.bind_some, rr_hasF, rr_b2s, if_pos z171, if_pos rfl, j1, Option.bind_some]
      rfl
  rw [j2, rr_b2s, if_pos rfl]
  have hcn2 : zf_Loader_checkNames u1 x = some u1 := by
    rw [hcn, i1, Option.bind_some, rr_hasF, rr_b2s, if_pos z171, if_pos rfl, j1, Option.bind_some]
    rfl
  have hb0 := hb
  obtain ⟨b1, b2, b3, b4, b5⟩ := hb
  have hrm := rr_room hL1 (q := rr_rows (4 * σ)) (by unfold rr_rows; omega) (by unfold rr_rows; omega)
  have hft := rr_fitF hL1 hD1 (z := 4 * σ) (by omega)
  have e15 : (w1.1 26 + (15 : Int32)) / (16 : Int32) = nI (rr_rows (4 * σ)) := by
    rw [hq.1]
    show (nI (4 * σ) + nI 15) / nI 16 = _
    rw [nI_add, pk_div (by omega) (by decide) (by decide)]
    rfl
  rw [e15, hrm, rr_b2s]
  have zroom : ∀ (Po : Option Value → zz_S → Prop) (Px : String → zz_S → Prop) (v : Int32) (uf : zz_S), zf_Loader_findRoom u1 = some (v, uf) → zp_Loader_bringIn_b44 (fun rv u1 => ∃ r, rv = some (va_rf r) ∧ rr_K Po Px (nI F) r u1) (fun _ _ => False) uf x v → xw_cq (fun Po => zp_Loader_bringIn Po (fun _ _ => False) u x) (rr_K Po Px (nI F)) := fun Po Px v uf hr hk => by
    refine rr_xcq ?_
    unfold zp_Loader_bringIn
    exact ⟨_, _, e1, fun h => absurd h (by decide), fun _ => ⟨u1, hcn2, _, _, rr_hasF u1, fun _ => ⟨v, uf, hr, hk⟩, fun h => absurd (if_pos z171) h⟩⟩
  have zrb : ∀ (Po : Option Value → zz_S → Prop) (Px : String → zz_S → Prop) (f y : Int32), zf_Loader_findRoom u1 = some (-1, rr_zb u1 f y) → ¬ f = 0 → rr_K Po Px (nI F) none (rr_zb u1 f y) → xw_cq (fun Po => zp_Loader_bringIn Po (fun _ _ => False) u x) (rr_K Po Px (nI F)) := fun Po Px f y hr hf hk => zroom Po Px _ _ hr ⟨_, _, rr_hasF _, fun h => absurd h (by rw [if_neg (zb17 hf)]; decide), fun _ => ⟨none, rfl, hk⟩⟩
  rcases rr_fitE (g := rr_gp ms r Z) (q := rr_rows (4 * σ)) (ms.length + 1) 0 with hno | ⟨kk, k1, k2, k3, k4⟩
  · rw [hno, Option.map_none, Option.getD_none] at hft ⊢
    obtain ⟨a', w2, a1, a2⟩ := bad 6 (-1) (w1.2 13) (by decide) (by decide)
    rw [rr_upI] at a1
    refine ⟨a', w2, ?_, fun Po Px g0 g3 => zrb Po Px 6 (-1) ?_ (by decide) (a2 Po Px g0 g3)⟩
    · rw [if_neg (by decide), rr_wrong, rr_b2s]
      exact a1
    · unfold zf_Loader_findRoom
      rw [hz.1, hft, rr_b2s, if_pos rfl, rr_blame, Option.bind_some]
  rw [k1] at hft ⊢
  obtain ⟨g1, g2⟩ := rr_ens hL1 (show kk ≤ ms.length by omega)
  obtain ⟨B, hBd⟩ : ∃ B, B = 512 + 16 * rr_en ms r Z kk := ⟨_, rfl⟩
  have hft2 : zf_ModuleTable_firstFit u1 (nI (4 * σ)) = some (nI B, u1) := by rw [hft, hBd]; rfl
  have hfr : zf_Loader_findRoom u1 = zf_Loader_findRoom_b34 xx_fu u1 (nI B) 0 := by
    unfold zf_Loader_findRoom
    rw [hz.1, hft2, rr_b2s, if_neg (fun z => absurd (show nI B < 0 by rw [z]; decide) (nI_pos (by omega))), rr_nm]
  have hgd : (Option.map (fun j => nI (512 + 16 * rr_en ms r Z j)) (some kk)).getD (-1) = nI B := by rw [hBd]; rfl
  rw [hgd, if_pos (show (0 : Int32) ≤ nI B from nI_pos' (by omega))]
  have hreach := rr_zrm hB1 hb0 hz hfp hf B c 0 (4999 - c) (by omega)
  rw [show 4999 - c + c + 1 = xx_fu by unfold xx_fu; omega, nI_0] at hreach
  rcases hreach with ⟨rall, zr⟩ | ⟨j, rj1, rj2, rj3, rj4, zr⟩
  · obtain ⟨V, v1, v2, v3, v4, v5, v6⟩ := rr_bri (x := x) r1 hE1' hff0 hn ht1 hf hSb hm12 m2 hlen hx (show kk ≤ ms.length by omega) rfl hBd k4 (fun j hj => rall j (Nat.zero_le _) hj) (nI F)
    have hV : ∀ q U, rr_M U V → rr_E U V (va_up φ m q) (rr_ins ms kk m) (S + b) (va_up r m (rr_en ms r Z kk)) (va_up Z m (4 * σ)) (va_up G m (4 * γ)) → (∀ k, k ≠ 15 → k ≠ 16 → U.1 k = u1.1 k) → (∀ k, k ≠ 0 → k ≠ 1 → U.2.1 k = u1.2.1 k) → ∃ (a : Int32) (w2 : qm_S), ((rr_bx V (nI m) (nI B) (nI F)).bind fun u11 => qf_Model_load_b180 u11 (nI m)) = some (a, w2) ∧ ∀ (Po : Option Value → zz_S → Prop) (Px : String → zz_S → Prop), (∀ u1, w2.1 0 = 0 → rr_Rel u1 w2 → Po (some (.int a)) u1) → (∀ u1, w2.1 0 = 2 → rr_Rel u1 w2 → Px "java/lang/IllegalStateException" u1) → rr_K Po Px (nI F) (some q) U := fun q U hM2 hE2 hu hum => by
      have hU17 : rr_F (va_up U.1 4 0, U.2) V := by
        refine ⟨?_, ?_, ?_, ?_, ?_⟩
        · show V.1 17 = U.1 17
          rw [v2 17 (by decide), hu 17 (by decide) (by decide)]; exact hF1.1
        · show V.1 18 = U.1 18
          rw [v2 18 (by decide), hu 18 (by decide) (by decide)]; exact hF1.2.1
        · show V.1 19 = U.1 19
          rw [v2 19 (by decide), hu 19 (by decide) (by decide)]; exact hF1.2.2.1
        · show V.1 20 = U.1 20
          rw [v2 20 (by decide), hu 20 (by decide) (by decide)]; exact hF1.2.2.2.1
        · show V.1 21 = U.1 21
          rw [v2 21 (by decide), hu 21 (by decide) (by decide)]; exact hF1.2.2.2.2
      have hR0 : rr_R0 (va_up U.1 4 0, U.2) V := by
        refine ⟨hM2, ?_, hU17, ⟨0, Nat.zero_le _, rfl, ?_, fun a h => absurd h (by omega), fun j h => absurd rfl h⟩, ?_, ?_⟩
        · unfold rr_R
          rw [v3, show ((va_up U.1 4 0, U.2) : zz_S).2.1 2 = u1.2.1 2 from hum 2 (by decide) (by decide)]
          exact r2
        · rw [v2 15 (by decide), f4 15 (by omega)]; exact h15
        · show V.1 2 = U.1 0
          rw [v2 2 (by decide), hu 0 (by decide) (by decide)]; exact r3.1
        · show U.1 0 = 0 ∨ U.1 0 = 1
          rw [hu 0 (by decide) (by decide)]; exact r3.2
      obtain ⟨a', w2, c1, c2⟩ := rr_ini (U := (va_up U.1 4 0, U.2)) (V := V) (m := m) (q := q) (B := B) (F := F) hR0 hE2 (rr_inm.mpr (Or.inr rfl)) (rr_upS _ _ _) v4 v5 (by
        show V.1 27 = U.1 9
        rw [v2 27 (by decide), hu 9 (by decide) (by decide), y9, y27]) (by rw [v2 0 (by decide), f4 0 (by omega)]; exact h0) (by rw [v2 17 (by decide), f4 17 (by omega)]; exact h17) (by rw [v2 18 (by decide), f4 18 (by omega)]; exact h18) (by rw [v2 19 (by decide), f4 19 (by omega)]; exact h19) (by rw [v2 20 (by decide), f4 20 (by omega)]; exact h20) hF2
      refine ⟨a', w2, c1, fun Po Px g0 g2 => ⟨_, rfl, fun h => (by cases h), fun a9 h => ?_⟩⟩
      cases h
      exact c2 Po Px g0 g2
    obtain ⟨a', w2, hEq⟩ : ∃ (a : Int32) (w2 : qm_S), ((rr_bx V (nI m) (nI B) (nI F)).bind fun u11 => qf_Model_load_b180 u11 (nI m)) = some (a, w2) := by
      obtain ⟨u3, -, hh⟩ := v6 (fun _ _ => ∃ (a : Int32) (w2 : qm_S), ((rr_bx V (nI m) (nI B) (nI F)).bind fun u11 => qf_Model_load_b180 u11 (nI m)) = some (a, w2)) (fun q U p1 p2 p3 p4 => by
        obtain ⟨a', w2, c1, -⟩ := hV q U p1 p2 p3 p4
        exact ⟨a', w2, c1⟩)
      exact rr_pP hh
    refine ⟨a', w2, by rw [v1]; exact hEq, fun Po Px g0 g3 => ?_⟩
    refine zroom Po Px (nI B) u1 (hfr.trans zr) ⟨_, _, rr_hasF u1, fun _ => ?_, fun h => absurd (if_pos z171) h⟩
    have hh := v6 (fun r u1 => (fun rv u1 => ∃ r, rv = some (va_rf r) ∧ rr_K Po Px (nI F) r u1) (some (va_rf r)) u1) (fun q U p1 p2 p3 p4 => by
      obtain ⟨a2', w2', c1, c2⟩ := hV q U p1 p2 p3 p4
      rw [hEq] at c1
      cases c1
      exact ⟨some q, rfl, c2 Po Px g0 g3⟩)
    exact hh
  · obtain ⟨t1, qf⟩ := (rr_qmd hB1 hb0 hq hn hN hfp hf (show B ≤ 4096 by omega) (nI m) x (nI F) c 0 (4999 - c) (w1.2 13) (by omega) ht1).2 j rj1 rj2 rj3 rj4
    rw [show 4999 - c + c + 1 = xx_fu by unfold xx_fu; omega, rr_upI, nI_0] at qf
    obtain ⟨a', w2, a1, a2⟩ := bad 7 (nI j) t1 (by decide) (by decide)
    refine ⟨a', w2, ?_, fun Po Px g0 g3 => zrb Po Px 7 (nI j) (hfr.trans zr) (by decide) (a2 Po Px g0 g3)⟩
    unfold qf_Model_bring
    rw [rr_nm, qf, Option.bind_some]
    exact a1
theorem rs_load : ll_s_load rr_Rel := by
  intro u w x d hR
  have hR0 := hR
  obtain ⟨hM, hRg, hF, hT, hS, φ, ms, S, r, Z, G, hE⟩ := hR
  obtain ⟨n, n1, n2, n3, n4, n5⟩ := hT
  have bad : ∀ v : Int32, qf_Model_load_b24 w x d v = some (0, (va_up w.1 0 1, w.2)) := fun v => rfl
  unfold zp_Loader_load qf_Model_load
  rw [rr_nm, rr_isNameq, rr_b2s, n3]
  cases hb : rr_nmB x
  · refine ⟨0, (va_up w.1 0 1, w.2), 1, (va_up w.1 0 1, w.2), ?_, rfl, fun Po Px g0 g1 g2 => ?_⟩
    · rw [if_pos rr_bif]; exact bad _
    · exact ⟨_, _, rr_isName u x, fun _ => g1 u rfl hR0, fun h => absurd (by rw [hb]; rfl) h⟩
  rw [if_neg (by decide)]
  cases hf : rr_fuB d
  · refine ⟨0, (va_up w.1 0 1, w.2), 1, (va_up w.1 0 1, w.2), ?_, rfl, fun Po Px g0 g1 g2 => ?_⟩
    · by_cases c : d < 0
      · rw [if_pos c]; exact bad _
      · have c2 : ¬ d ≤ 2000 := fun z => by simp [rr_fuB, c, z] at hf
        rw [if_neg c, if_neg c2]; exact bad _
    · exact ⟨_, _, rr_isName u x, fun h => absurd h (by rw [hb]; decide), fun _ => ⟨_, _, rr_isFuel u d, fun _ => g1 u rfl hR0, fun h => absurd (by rw [hf]; rfl) h⟩⟩
  obtain ⟨c1, c2, F, hF2, rfl⟩ := rr_fuN hf
  rw [if_neg c1, if_pos c2]
  obtain ⟨w0, hw0⟩ : ∃ w0 : qm_S, w0 = (va_up (rr_qc (va_up (va_up w.1 0 0) 15 0, w.2)).1 0 2, w.2) := ⟨_, rfl⟩
  have hL0 : rr_L w0 ms r Z G := by rw [hw0]; exact hE.2.1
  obtain ⟨m, m1, m2, m3, m4⟩ := rr_slot hL0 x (nI F) (nI n) 12 0 4987 (by decide) (fun j hj => absurd hj (by omega))
  rw [nI_0] at m4
  obtain ⟨a, w2, a1, a2⟩ := rr_b81 (u := rr_zc u) (w := w0) (φ := φ) (ms := ms) (S := S) (n := n) (m := m) (F := F) (r := r) (Z := Z) (G := G) (x := x) (by rw [hw0]; exact hM) (by rw [hw0]; exact hRg) (by rw [hw0]; exact hS) (by rw [hw0]; exact hE) (by rw [hw0]; exact ⟨rfl, rfl, rfl, rfl, rfl⟩) n2 n1 (by rw [hw0]; exact n4) (by rw [hw0]; rfl) (by rw [hw0]; rfl) (by rw [hw0]; rfl) (by rw [hw0]; rfl) (by rw [hw0]; rfl) (by rw [hw0]; rfl) hF2 m1 m2 m3
  have hq : qf_Model_load_b29 w x (nI F) (nI n) 0 = some (a, w2) := by
    unfold qf_Model_load_b29
    rw [rr_nm, if_pos (show va_up w.1 0 0 0 ≤ 0 by rw [rr_upS]; decide), rr_nm, rr_fresh, Option.bind_some, rr_nm, rr_nm]
    show qf_Model_load_b58 xx_fu (va_up (rr_qc (va_up (va_up w.1 0 0) 15 0, w.2)).1 0 2, w.2) x (nI F) (nI n) 0 = _
    rw [← hw0, ← a1, ← m4]
    rfl
  refine ⟨a, w2, w2.1 0, w2, hq, rfl, fun Po Px g0 g1 g2 => ?_⟩
  exact ⟨_, _, rr_isName u x, fun h => absurd h (by rw [hb]; decide), fun _ => ⟨_, _, rr_isFuel u _, fun h => absurd h (by rw [hf]; decide), fun _ => ⟨_, rr_clear u, a2 Po Px g0 g2⟩⟩⟩
