/-! symbol; the tables of modules on both sides; module -/
theorem rr_Yg {u u1 : zz_S} {w w1 : qm_S} {φ : Nat → Nat} {ms : List Nat} {k : Nat} (hg : rr_grow u u1) (he : u1.2.2.1 0 k = u.2.2.1 0 k) (h2 : w1.2 2 k = w.2 2 k) (h3 : w1.2 3 k = w.2 3 k) (h4 : w1.2 4 k = w.2 4 k) (h5 : w1.2 5 k = w.2 5 k) (h : rr_Y u w φ ms k) : rr_Y u1 w1 φ ms k := by
  obtain ⟨q, ow, y1, y2, y3, y4⟩ := h
  exact ⟨q, ow, he.trans y1, (hg.1 _ y2).1, by rw [(hg.1 _ y2).2, y3, h2, h3, h4], by rw [h5]; exact y4⟩
theorem rr_growq (u : zz_S) (x : Nat → Int32) (y : Nat → Nat → Int32) (z : Nat → Nat → Option Nat) {q : Nat} (o : Nat × List Value) (hq : q ∉ u.2.2.2.1.1) : rr_grow u (x, y, z, (u.2.2.2.1.1 ++ [q], va_up u.2.2.2.1.2 q o), u.2.2.2.2) := by
  refine ⟨fun a ha => ⟨List.mem_append_left _ ha, rr_upN _ _ (fun e => hq (e ▸ ha))⟩, fun b hb => ⟨hb, rfl⟩⟩
theorem rr_m1I {m : Nat} (h : m < 12) : ¬ ((-1 : Int32) = nI m) := fun e => absurd (e ▸ (by decide : (-1 : Int32) < 0)) (nI_pos (by omega))
theorem rs_symbol : ll_s_symbol rr_Rel := by
  intro u w a b c hR
  have hR0 := hR
  obtain ⟨hM, hRg, hF, hT, hS, φ, ms, S, r, Z, G, hG, hL, hN, hD, hB⟩ := hR
  unfold zp_Loader_symbol qf_Model_symbol
  simp only [rr_isName, rr_isNameq, xx_b2]
  cases hb : rr_nmB a
  · refine ⟨(va_up w.1 0 1, w.2), 1, (va_up w.1 0 1, w.2), rfl, rfl, fun Po Px h0 h1 h2 => ?_⟩
    exact ⟨_, _, rfl, fun _ => h1 u rfl hR0, fun h => absurd rfl h⟩
  · rw [if_neg (show ¬ rr_bi true = 0 by decide)]
    have throws : qf_Model_symbol_b29 w a b c = some (va_up w.1 0 2, w.2) := rfl
    rcases rr_find hB a with ⟨j, h1, h2, h3, h4⟩ | ⟨h1, h3, h4⟩
    · obtain ⟨q, ow, y1, y2, y3, y4⟩ := hB.2.2.2 j h1
      have hS40 := hB.1
      refine ⟨(va_up w.1 0 2, w.2), 2, (va_up w.1 0 2, w.2), ?_, rfl, fun Po Px g0 g1 g2 => ?_⟩
      · rw [h4]
        simp only
        rw [if_pos (show (0 : Int32) ≤ nI j from nI_pos' (by omega))]
        exact throws
      · refine ⟨_, _, rfl, fun h => absurd h (by decide), fun _ => ⟨_, _, h3, fun h => ?_, fun _ _ => g2 u rfl hR0⟩⟩
        rw [y1] at h
        cases h
    · obtain ⟨hS40, hu, hw, hY⟩ := hB
      have hun : zf_SymbolTable_unused u = some (nI (40 - S), u) := by
        unfold zf_SymbolTable_unused
        rw [hu, show (40 : Int32) = nI 40 from rfl, pk_sub hS40]
      by_cases hf : S = 40
      · refine ⟨(va_up w.1 0 2, w.2), 2, (va_up w.1 0 2, w.2), ?_, rfl, fun Po Px g0 g1 g2 => ?_⟩
        · rw [h4]
          simp only
          rw [if_neg (by decide), if_pos (show w.1 3 = 40 from by rw [hw, hf]; rfl)]
          exact throws
        · refine ⟨_, _, rfl, fun h => absurd h (by decide), fun _ => ⟨_, _, h3, fun _ => ⟨_, _, hun, fun _ => g2 u rfl hR0, fun h => absurd (by rw [hf]; rfl) h⟩, fun _ h => ?_⟩⟩
          cases h
      · have hS1 : S < 40 := by omega
        have e := rr_addQ (va_up w.1 0 0, w.2) a b c (-1) hS1 hw
        refine ⟨(va_up (va_up w.1 0 0) 3 (nI (S + 1)), va_up (va_up (va_up (va_up w.2 2 (va_up (w.2 2) S a)) 3 (va_up (w.2 3) S b)) 4 (va_up (w.2 4) S c)) 5 (va_up (w.2 5) S (-1))), 0, (va_up (va_up w.1 0 0) 3 (nI (S + 1)), va_up (va_up (va_up (va_up w.2 2 (va_up (w.2 2) S a)) 3 (va_up (w.2 3) S b)) 4 (va_up (w.2 4) S c)) 5 (va_up (w.2 5) S (-1))), ?_, rfl, fun Po Px g0 g1 g2 => ?_⟩
        · rw [h4]
          simp only
          rw [if_neg (by decide), if_neg (show ¬ w.1 3 = 40 from by
            rw [hw]
            exact fun z => hf ((nI_eq (b := 40) (by omega) (by decide)).mp z)), qf_Model_symbol_b34]
          simp only [xx_nm, rr_upS, if_true]
          rw [e, Option.bind_some, qf_Model_symbol_b52]
        · refine ⟨_, _, rfl, fun h => absurd h (by decide), fun _ => ⟨_, _, h3, fun _ => ⟨_, _, hun, fun h => absurd ((nI_eq (b := 0) (by omega) (by decide)).mp h) (by omega), fun _ => ?_⟩, fun _ h => ?_⟩⟩
          · intro q hq
            obtain ⟨u1, z1, z2⟩ := rr_addZ u a b c none hS1 hu hq
            refine ⟨_, z1, _, z2, g0 _ rfl ?_⟩
            have hg := rr_growq u (va_up u.1 15 (nI (S + 1))) u.2.1 (va_up u.2.2.1 0 (va_up (u.2.2.1 0) S (some q))) (7, [.int a, .int b, .int c, va_rf none]) hq
            refine ⟨hM, hRg, hF, hT, hS, φ, ms, S + 1, r, Z, G, hG, hL, hN, ⟨hD.1, hD.2.1, hD.2.2.1, hD.2.2.2.1, fun m hm => ?_⟩, by omega, rfl, rfl, fun k hk => ?_⟩
            · obtain ⟨o1, nd, ns, o2, o3⟩ := rr_Og hg (hD.2.2.2.2 m hm)
              refine ⟨o1, nd, ns, o2.trans ?_, o3⟩
              have ec : rr_cnt (va_up (va_up w.1 0 0) 3 (nI (S + 1)), va_up (va_up (va_up (va_up w.2 2 (va_up (w.2 2) S a)) 3 (va_up (w.2 3) S b)) 4 (va_up (w.2 4) S c)) 5 (va_up (w.2 5) S (-1))) (S + 1) m = rr_cnt w S m := by
                refine (rr_cntS w _ S m (fun k hk => show va_up (w.2 5) S (-1) k = w.2 5 k from rr_upN _ _ (by omega))).trans ?_
                show rr_cnt w S m + (if va_up (w.2 5) S (-1) S = nI m then 1 else 0) = _
                rw [rr_upS, if_neg (rr_m1I ((hL.1 m).mp hm).1), Nat.add_zero]
              rw [ec]
              rfl
            · by_cases ek : k = S
              · subst ek
                refine ⟨q, none, rr_upS _ _ _, List.mem_append_right _ (List.mem_singleton.mpr rfl), ?_, Or.inl ⟨rr_upS _ _ _, rfl⟩⟩
                show va_up u.2.2.2.1.2 q (7, [.int a, .int b, .int c, va_rf none]) q = (7, [.int (va_up (w.2 2) k a k), .int (va_up (w.2 3) k b k), .int (va_up (w.2 4) k c k), va_rf none])
                rw [rr_upS, rr_upS, rr_upS, rr_upS]
              · exact rr_Yg hg (rr_upN _ _ ek) (rr_upN _ _ ek) (rr_upN _ _ ek) (rr_upN _ _ ek) (rr_upN _ _ ek) (hY k (by omega))
          · cases h
theorem rr_numl {w : qm_S} {ms : List Nat} {r Z G : Nat → Nat} (hL : rr_L w ms r Z G) (x : Int32) : ∀ (d k n : Nat), k + d = 12 → (∃ m ∈ ms, w.2 7 m = x ∧ qf_Model_numberOf_b2 (n + d + 1) w x (nI k) = some (nI m, w)) ∨ ((∀ m ∈ ms, k ≤ m → w.2 7 m ≠ x) ∧ qf_Model_numberOf_b2 (n + d + 1) w x (nI k) = some (-1, w)) := by
  intro d
  induction d with
  | zero =>
    intro k n h
    have e : k = 12 := by omega
    subst e
    refine Or.inr ⟨fun m hm h => absurd ((hL.1 m).mp hm).1 (by omega), ?_⟩
    have c : (12 : Int32) ≤ nI 12 := nI_le (a := 12) (Nat.le_refl _) (by decide)
    rw [qf_Model_numberOf_b2, if_pos c, qf_Model_numberOf_b33, if_pos c, qf_Model_numberOf_b44]
  | succ d ih =>
    intro k n h
    have c : ¬ (12 : Int32) ≤ nI k := nI_ge (b := 12) (by omega) (by decide)
    have next : (∀ m ∈ ms, k ≤ m → m = k → w.2 7 m ≠ x) → qf_Model_numberOf_b2 (n + (d + 1) + 1) w x (nI k) = qf_Model_numberOf_b2 (n + d + 1) w x (nI (k + 1)) → (∃ m ∈ ms, w.2 7 m = x ∧ qf_Model_numberOf_b2 (n + (d + 1) + 1) w x (nI k) = some (nI m, w)) ∨ ((∀ m ∈ ms, k ≤ m → w.2 7 m ≠ x) ∧ qf_Model_numberOf_b2 (n + (d + 1) + 1) w x (nI k) = some (-1, w)) := fun h1 h2 => by
      rw [h2]
      rcases ih (k + 1) n (by omega) with ⟨m, a1, a2, a3⟩ | ⟨a1, a2⟩
      · exact Or.inl ⟨m, a1, a2, a3⟩
      · refine Or.inr ⟨fun m hm hk => ?_, a2⟩
        by_cases e : m = k
        · exact h1 m hm hk e
        · exact a1 m hm (by omega)
    by_cases hm : k ∈ ms
    · have h1 : w.2 6 k = 1 := ((hL.1 k).mp hm).2
      by_cases hx : w.2 7 k = x
      · refine Or.inl ⟨k, hm, hx, ?_⟩
        rw [qf_Model_numberOf_b2, if_neg c, rr_ag (by omega) (by decide), Option.bind_some, h1, if_neg (by decide), rr_ag (by omega) (by decide), Option.bind_some, if_pos hx, qf_Model_numberOf_b33, if_neg c, qf_Model_numberOf_b44]
      · refine next (fun m _ _ e => by rw [e]; exact hx) ?_
        rw [qf_Model_numberOf_b2, if_neg c, rr_ag (by omega) (by decide), Option.bind_some, h1, if_neg (by decide), rr_ag (by omega) (by decide), Option.bind_some, if_neg hx, qf_Model_numberOf_b27]
        simp only [xx_nm]
        rw [nI_1]
        rfl
    · have h0 : w.2 6 k = 0 := (hL.2.1 k (by omega)).resolve_right (fun z => hm ((hL.1 k).mpr ⟨by omega, z⟩))
      refine next (fun m hm2 _ e => absurd (e ▸ hm2) hm) ?_
      rw [qf_Model_numberOf_b2, if_neg c, rr_ag (by omega) (by decide), Option.bind_some, h0, if_pos rfl, qf_Model_numberOf_b27]
      simp only [xx_nm]
      rw [nI_1]
      rfl
theorem rr_mfl {u : zz_S} {w : qm_S} {φ : Nat → Nat} {ms : List Nat} {S : Nat} {r Z : Nat → Nat} (hD : rr_D u w φ ms S r Z) (h12 : ms.length ≤ 12) (x : Int32) : ∀ (d k n : Nat), k + d = ms.length → (∃ m ∈ ms, w.2 7 m = x ∧ zf_ModuleTable_find_b2 (n + d + 1) u x (nI k) = some (some (φ m), u)) ∨ ((∀ j (h : j < ms.length), k ≤ j → w.2 7 ms[j] ≠ x) ∧ zf_ModuleTable_find_b2 (n + d + 1) u x (nI k) = some (none, u)) := by
  obtain ⟨hu, hE, -, -, hO⟩ := hD
  intro d
  induction d with
  | zero =>
    intro k n h
    have e : k = ms.length := by omega
    subst e
    refine Or.inr ⟨fun j h1 h2 => absurd h1 (by omega), ?_⟩
    rw [zf_ModuleTable_find_b2, if_pos (by rw [hu]; exact nI_le (Nat.le_refl _) (by omega))]
  | succ d ih =>
    intro k n h
    have hk : k < ms.length := by omega
    obtain ⟨o1, nd, ns, o2, -⟩ := hO ms[k] (List.getElem_mem hk)
    have c1 : ¬ u.1 16 ≤ nI k := by rw [hu]; exact nI_ge (by omega) (by omega)
    have e1 : zf_ModuleTable_find_b2 (n + (d + 1) + 1) u x (nI k) = if w.2 7 ms[k] = x then some (some (φ ms[k]), u) else zf_ModuleTable_find_b2 (n + d + 1) u x (nI (k + 1)) := by
      rw [zf_ModuleTable_find_b2, if_neg c1, rr_ag (by omega) (by decide), Option.bind_some, hE k hk]
      simp only [xx_on, Option.bind_some, xx_nn]
      rw [rr_pi o1 o2 rfl, Option.bind_some, zf_ModuleTable_find_b39]
      simp only [xx_nm]
      rw [nI_1]
      rfl
    rw [e1]
    by_cases hx : w.2 7 ms[k] = x
    · rw [if_pos hx]
      exact Or.inl ⟨ms[k], List.getElem_mem hk, hx, rfl⟩
    · rw [if_neg hx]
      rcases ih (k + 1) n (by omega) with ⟨m, a1, a2, a3⟩ | ⟨a1, a2⟩
      · exact Or.inl ⟨m, a1, a2, a3⟩
      · refine Or.inr ⟨fun j hj hk2 => ?_, a2⟩
        by_cases e : j = k
        · subst e; exact hx
        · exact a1 j hj (by omega)
theorem rr_nodup {w : qm_S} {ms : List Nat} {r Z G : Nat → Nat} (hL : rr_L w ms r Z G) : ms.Nodup := by
  refine List.pairwise_iff_getElem.mpr (fun i j hi hj hij => ?_)
  have h := List.pairwise_iff_getElem.mp hL.2.2.1 i j hi hj hij
  obtain ⟨-, q, -⟩ := hL.2.2.2 ms[i] (List.getElem_mem hi)
  intro e
  rw [e] at h q
  unfold rr_rows at h
  omega
theorem rr_len {w : qm_S} {ms : List Nat} {r Z G : Nat → Nat} (hL : rr_L w ms r Z G) : ms.length ≤ 12 := by
  have h := List.Nodup.length_le_of_subset (rr_nodup hL) (fun m hm => List.mem_range.mpr ((hL.1 m).mp hm).1 : ms ⊆ List.range 12)
  rw [List.length_range] at h
  exact h
theorem rr_modf {u : zz_S} {w : qm_S} {φ : Nat → Nat} {ms : List Nat} {S : Nat} {r Z G : Nat → Nat} (hL : rr_L w ms r Z G) (hD : rr_D u w φ ms S r Z) (x : Int32) : (∃ m ∈ ms, w.2 7 m = x ∧ zf_ModuleTable_find u x = some (some (φ m), u) ∧ qf_Model_numberOf w x = some (nI m, w)) ∨ ((∀ m ∈ ms, w.2 7 m ≠ x) ∧ zf_ModuleTable_find u x = some (none, u) ∧ qf_Model_numberOf w x = some (-1, w)) := by
  have h12 := rr_len hL
  have h1 := rr_numl hL x 12 0 4987 (by decide)
  have h2 := rr_mfl hD h12 x ms.length 0 (4999 - ms.length) (by omega)
  rw [show 4999 - ms.length + ms.length + 1 = xx_fu by unfold xx_fu; omega] at h2
  rcases h1 with ⟨m, a1, a2, a3⟩ | ⟨a1, a2⟩
  · rcases h2 with ⟨m2, b1, b2, b3⟩ | ⟨b1, b2⟩
    · have e := hD.2.2.2.1 m a1 m2 b1 (a2.trans b2.symm)
      subst e
      exact Or.inl ⟨m, a1, a2, b3, a3⟩
    · obtain ⟨j, hj, e⟩ := List.getElem_of_mem a1
      exact absurd (e ▸ a2) (b1 j hj (by omega))
  · rcases h2 with ⟨m2, b1, b2, b3⟩ | ⟨b1, b2⟩
    · exact absurd b2 (a1 m2 b1 (by omega))
    · exact Or.inr ⟨fun m hm => a1 m hm (by omega), b2, a2⟩
