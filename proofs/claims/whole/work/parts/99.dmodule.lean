/-! module -/
theorem rr_exm {w : qm_S} {m S : Nat} (hw : w.1 3 = nI S) (hS : S ≤ 40) : ∀ (d k n : Nat), k + d = 40 → qf_Model_module_b57 (n + d + 1) w 2 (nI m) (nI (rr_cnt w (min k S) m)) (nI k) = some (nI (rr_cnt w S m), w) := by
  intro d
  induction d with
  | zero =>
    intro k n h
    have e : k = 40 := by omega
    subst e
    rw [qf_Model_module_b57, if_pos (show (40 : Int32) ≤ nI 40 from nI_le (a := 40) (Nat.le_refl _) (by decide)), qf_Model_module_b105, show min 40 S = S by omega]
    simp only [xx_nm]
    show qf_Model_module_b108 (4999 + 1) _ _ _ _ _ = _
    rw [qf_Model_module_b108, if_neg (by decide), if_pos (by decide), qf_Model_module_b176]
  | succ d ih =>
    intro k n h
    have c : ¬ (40 : Int32) ≤ nI k := nI_ge (b := 40) (by omega) (by decide)
    rw [qf_Model_module_b57, if_neg c, if_pos rfl]
    have e := ih (k + 1) n (by omega)
    by_cases c2 : k < S
    · have ec : rr_cnt w (k + 1) m = rr_cnt w k m + if w.2 5 k = nI m then 1 else 0 := rr_cntS w w k m (fun _ _ => rfl)
      rw [show min (k + 1) S = k + 1 by omega, ec] at e
      rw [if_neg (by rw [hw]; exact nI_ge c2 (by omega)), rr_ag (by omega) (by decide), Option.bind_some, show min k S = k by omega]
      by_cases c3 : w.2 5 k = nI m
      · rw [if_pos c3] at e
        rw [if_pos c3, qf_Model_module_b96]
        simp only [xx_nm]
        rw [nI_1, nI_1]
        exact e
      · rw [if_neg c3] at e
        rw [if_neg c3, qf_Model_module_b95, qf_Model_module_b96]
        simp only [xx_nm]
        rw [nI_1, show nI (rr_cnt w k m) + 0 = nI (rr_cnt w k m + 0) from nI_add _ 0]
        exact e
    · rw [show min (k + 1) S = min k S by omega] at e
      rw [if_pos (by rw [hw]; exact nI_le (by omega) (by omega)), qf_Model_module_b95, qf_Model_module_b96]
      simp only [xx_nm]
      rw [nI_1, show ∀ x, nI x + 0 = nI (x + 0) from fun x => nI_add x 0]
      exact e
/-- who is needed, on the class's side -/
theorem rr_na {u : zz_S} {b j : Nat} (hb : b ∈ u.2.2.2.2.1) (hj : j < 8) : zz_na u b (nI j) = some (u.2.2.2.2.2 b j) := by
  unfold zz_na
  rw [if_pos hb, rr_ag hj (by decide)]
theorem rr_needl {u : zz_S} {φ : Nat → Nat} {ms ns : List Nat} {q nd m : Nat} {l : List Value} (hq : q ∈ u.2.2.2.1.1) (hf : u.2.2.2.1.2 q = (9, l)) (h8 : l[8]? = some (.ref nd)) (h9 : l[9]? = some (.int (nI ns.length))) (hn : nd ∈ u.2.2.2.2.1) (hl : ns.length ≤ 8) (ha : ∀ j (h : j < ns.length), u.2.2.2.2.2 nd j = some (φ ns[j])) (hi : ∀ a ∈ ms, ∀ b ∈ ms, φ a = φ b → a = b) (hm : m ∈ ms) (hs : ∀ k ∈ ns, k ∈ ms) : ∀ (d j n : Nat), j + d = ns.length → zf_LoadedModule_needs_b2 (n + d + 1) u q (some (φ m)) (nI j) = some (rr_bi (decide (m ∈ ns.drop j)), u) := by
  intro d
  induction d with
  | zero =>
    intro j n h
    have e : j = ns.length := by omega
    subst e
    rw [zf_LoadedModule_needs_b2, rr_pi hq hf h9, Option.bind_some, if_pos (nI_le (Nat.le_refl _) (by omega)), rr_nb0, List.drop_length]
    simp
    rfl
  | succ d ih =>
    intro j n h
    have hj : j < ns.length := by omega
    rw [zf_LoadedModule_needs_b2, rr_pi hq hf h9, Option.bind_some, if_neg (nI_ge hj (by omega)), rr_pr hq hf h8, Option.bind_some, rr_na hn (by omega), Option.bind_some, ha j hj, List.drop_eq_getElem_cons hj]
    by_cases c : ns[j] = m
    · rw [if_pos (by rw [c]), rr_nb1, decide_eq_true (by rw [c]; exact List.mem_cons_self)]
      rfl
    · rw [if_neg (fun z => c (hi _ (hs _ (List.getElem_mem hj)) _ hm (Option.some.inj z)))]
      simp only [xx_nm]
      rw [nI_1, show n + (d + 1) = n + d + 1 from rfl, ih (j + 1) n (by omega)]
      have e : (decide (m ∈ ns.drop (j + 1))) = decide (m ∈ ns[j] :: ns.drop (j + 1)) := by
        rw [decide_eq_decide, List.mem_cons]
        exact ⟨Or.inr, fun z => z.resolve_left (fun z => c z.symm)⟩
      rw [e]
theorem rr_needs {u : zz_S} {w : qm_S} {φ : Nat → Nat} {ms : List Nat} {S k m : Nat} {r Z : Nat → Nat} (hD : rr_D u w φ ms S r Z) (hN : rr_N w ms) (h12 : ∀ k ∈ ms, k < 12) (hk : k ∈ ms) (hm : m ∈ ms) : zf_LoadedModule_needs u (φ k) (some (φ m)) = some (rr_bi (decide (w.2 12 (12 * k + m) = 1)), u) := by
  obtain ⟨o1, nd, ns, o2, o3, o4, o5, o6, o7⟩ := hD.2.2.2.2 k hk
  have hs : ∀ j ∈ ns, j ∈ ms := fun j hj => by
    have := (o6 j).mp hj
    exact ((hN k (h12 k hk) j this.1).2 this.2).2.1
  have h := rr_needl (l := [.int (w.2 7 k), .int (w.2 8 k), .int (w.2 9 k), .int (nI (rr_cnt w S k)), .int (w.2 11 k), .int (w.2 10 k), .int (nI (r k)), .int (nI (r k + rr_rows (Z k))), .ref nd, .int (nI ns.length)]) o1 o2 rfl rfl o3 o5 o7 hD.2.2.1 hm hs ns.length 0 (4999 - ns.length) (by omega)
  rw [show 4999 - ns.length + ns.length + 1 = xx_fu by unfold xx_fu; omega] at h
  unfold zf_LoadedModule_needs
  simp only [xx_nm]
  rw [← nI_0, h]
  congr 3
  rw [List.drop_zero, decide_eq_decide, o6]
  exact ⟨fun z => z.2, fun z => ⟨h12 m hm, z⟩⟩
theorem rr_hown {u : zz_S} {w : qm_S} {φ : Nat → Nat} {ms : List Nat} {S m : Nat} {r Z : Nat → Nat} (hD : rr_D u w φ ms S r Z) (hN : rr_N w ms) (h12 : ∀ k ∈ ms, k < 12) (hl : ms.length ≤ 12) (hm : m ∈ ms) : ∀ (d k n acc : Nat), k + d = ms.length → zf_ModuleTable_howManyNeed_b4 (n + d + 1) u (some (φ m)) (nI acc) (nI k) = some (nI (acc + ((ms.drop k).filter (fun j => decide (w.2 12 (12 * j + m) = 1))).length), u) := by
  intro d
  induction d with
  | zero =>
    intro k n acc h
    have e : k = ms.length := by omega
    subst e
    rw [zf_ModuleTable_howManyNeed_b4, if_pos (by rw [hD.1]; exact nI_le (Nat.le_refl _) (by omega)), List.drop_length]
    rfl
  | succ d ih =>
    intro k n acc h
    have hk : k < ms.length := by omega
    have hmem := List.getElem_mem hk
    obtain ⟨o1, nd, ns, o2, o3⟩ := hD.2.2.2.2 _ hmem
    rw [zf_ModuleTable_howManyNeed_b4, if_neg (by rw [hD.1]; exact nI_ge hk (by omega)), rr_ag (by omega) (by decide), Option.bind_some, hD.2.1 k hk]
    simp only [xx_on, Option.bind_some, xx_nn]
    rw [rr_okp o1 o2, Option.bind_some, rr_needs hD hN h12 hmem hm, rr_b2s, List.drop_eq_getElem_cons hk, List.filter_cons]
    by_cases c : w.2 12 (12 * ms[k] + m) = 1
    · rw [if_neg (by rw [decide_eq_true c]; decide), if_pos (decide_eq_true c)]
      simp only [xx_nm, zf_ModuleTable_howManyNeed_b37]
      rw [nI_1, nI_1, show n + (d + 1) = n + d + 1 from rfl, ih (k + 1) n (acc + 1) (by omega), List.length_cons, show ∀ x, acc + 1 + x = acc + (x + 1) from fun x => by omega]
    · rw [if_pos (by rw [decide_eq_false c]; decide), if_neg (by simp [c])]
      simp only [xx_nm, zf_ModuleTable_howManyNeed_b37]
      rw [nI_1, show n + (d + 1) = n + d + 1 from rfl, ih (k + 1) n acc (by omega)]
theorem rr_hown0 {u : zz_S} {w : qm_S} {φ : Nat → Nat} {ms : List Nat} {S m : Nat} {r Z : Nat → Nat} (hD : rr_D u w φ ms S r Z) (hN : rr_N w ms) (h12 : ∀ k ∈ ms, k < 12) (hl : ms.length ≤ 12) (hm : m ∈ ms) : zf_ModuleTable_howManyNeed u (some (φ m)) = some (nI ((ms.filter (fun j => decide (w.2 12 (12 * j + m) = 1))).length), u) := by
  have h := rr_hown hD hN h12 hl hm ms.length 0 (4999 - ms.length) 0 (by omega)
  rw [show 4999 - ms.length + ms.length + 1 = xx_fu by unfold xx_fu; omega, List.drop_zero, Nat.zero_add] at h
  unfold zf_ModuleTable_howManyNeed
  simp only [xx_nm]
  rw [nI_0] at h
  exact h
/-- the reference's count of needs: ix the place -/
theorem rr_cneed {w : qm_S} {m : Nat} (x2 : Int32) (ix : Nat → Nat) (hx : ¬ x2 ≤ 2) (hix : ∀ j, j < 12 → ix j < 144) (hs : ∀ j, j < 12 → (w.2 12 (ix j) = 0 ∨ w.2 12 (ix j) = 1) ∧ (w.2 12 (ix j) = 1 → w.2 6 j = 1)) (h6 : ∀ j, j < 12 → w.2 6 j = 0 ∨ w.2 6 j = 1) (he : (x2 = 3 ∧ ∀ j, ix j = 12 * j + m) ∨ (x2 ≠ 3 ∧ ∀ j, ix j = 12 * m + j)) : ∀ (d k n acc : Nat), k + d = 12 → qf_Model_module_b108 (n + d + 1) w x2 (nI m) (nI acc) (nI k) = some (nI (acc + ((List.range' k d).filter (fun j => decide (w.2 12 (ix j) = 1))).length), w) := by
  intro d
  induction d with
  | zero =>
    intro k n acc h
    have e : k = 12 := by omega
    subst e
    rw [qf_Model_module_b108, if_pos (show (12 : Int32) ≤ nI 12 from nI_le (a := 12) (Nat.le_refl _) (by decide)), qf_Model_module_b176]
    rfl
  | succ d ih =>
    intro k n acc h
    have hk : k < 12 := by omega
    have c : ¬ (12 : Int32) ≤ nI k := nI_ge (b := 12) (by omega) (by decide)
    have z : qf_Model_module_b166 (qf_Model_module_b108 (n + d + 1)) w x2 (nI m) (nI k) (nI acc) = qf_Model_module_b108 (n + d + 1) w x2 (nI m) (nI acc) (nI (k + 1)) := by
      rw [qf_Model_module_b166, qf_Model_module_b167]
      simp only [xx_nm]
      rw [nI_1, show ∀ x, nI x + 0 = nI (x + 0) from fun x => nI_add x 0]
      rfl
    have ez : qf_Model_module_b108 (n + (d + 1) + 1) w x2 (nI m) (nI acc) (nI k) = if w.2 12 (ix k) = 1 then qf_Model_module_b108 (n + d + 1) w x2 (nI m) (nI (acc + 1)) (nI (k + 1)) else qf_Model_module_b108 (n + d + 1) w x2 (nI m) (nI acc) (nI (k + 1)) := by
      rw [qf_Model_module_b108, if_neg c, if_neg hx, rr_ag hk (by decide), Option.bind_some]
      have y : ∀ i, i = nI (ix k) → w.2 6 k = 1 → qf_Model_module_b158 (qf_Model_module_b108 (n + d + 1)) w x2 (nI m) (nI k) (nI acc) i = if w.2 12 (ix k) = 1 then qf_Model_module_b108 (n + d + 1) w x2 (nI m) (nI (acc + 1)) (nI (k + 1)) else qf_Model_module_b108 (n + d + 1) w x2 (nI m) (nI acc) (nI (k + 1)) := fun i hi h1 => by
        subst hi
        rw [qf_Model_module_b158, rr_ag (hix k hk) (by decide), Option.bind_some]
        rcases (hs k hk).1 with q | q
        · rw [q, if_pos rfl, if_neg (by decide)]
          exact z
        · rw [q, if_neg (by decide), if_pos rfl, qf_Model_module_b167]
          simp only [xx_nm]
          rw [nI_1, nI_1]
      rcases h6 k hk with q | q
      · rw [q, if_pos rfl, if_neg (fun p => by have := (hs k hk).2 p; rw [q] at this; exact absurd this (by decide))]
        exact z
      · rw [q, if_neg (by decide)]
        rcases he with ⟨e1, e2⟩ | ⟨e1, e2⟩
        · rw [if_pos e1]
          refine y _ ?_ q
          rw [e2, show (12 : Int32) * nI k = nI (12 * k) from pk_mul 12 k, nI_add]
        · rw [if_neg e1]
          refine y _ ?_ q
          rw [e2, show (12 : Int32) * nI m = nI (12 * m) from pk_mul 12 m, nI_add]
    rw [ez, List.range'_succ, List.filter_cons]
    by_cases q : w.2 12 (ix k) = 1
    · rw [if_pos q, if_pos (decide_eq_true q), ih (k + 1) n (acc + 1) (by omega), List.length_cons, show ∀ x, acc + 1 + x = acc + (x + 1) from fun x => by omega]
    · rw [if_neg q, if_neg (by simp [q]), ih (k + 1) n acc (by omega)]
theorem rr_cneed0 {w : qm_S} {m : Nat} (x2 : Int32) (ix : Nat → Nat) (h2 : ¬ x2 = 2) (hx : ¬ x2 ≤ 2) (hix : ∀ j, j < 12 → ix j < 144) (hs : ∀ j, j < 12 → (w.2 12 (ix j) = 0 ∨ w.2 12 (ix j) = 1) ∧ (w.2 12 (ix j) = 1 → w.2 6 j = 1)) (h6 : ∀ j, j < 12 → w.2 6 j = 0 ∨ w.2 6 j = 1) (he : (x2 = 3 ∧ ∀ j, ix j = 12 * j + m) ∨ (x2 ≠ 3 ∧ ∀ j, ix j = 12 * m + j)) : qf_Model_module_b57 xx_fu w x2 (nI m) 0 0 = some (nI (((List.range 12).filter (fun j => decide (w.2 12 (ix j) = 1))).length), w) := by
  show qf_Model_module_b57 (4999 + 1) w x2 (nI m) 0 0 = _
  rw [qf_Model_module_b57, if_neg (by decide), if_neg h2, qf_Model_module_b105]
  have h := rr_cneed (m := m) x2 ix hx hix hs h6 he 12 0 4987 0 (by decide)
  rw [nI_0, Nat.zero_add, ← List.range_eq_range'] at h
  simp only [xx_nm]
  exact h
theorem rr_lenf {a b : List Nat} (ha : a.Nodup) (hb : b.Nodup) (h : ∀ k, k ∈ a ↔ k ∈ b) : a.length = b.length := ((List.perm_ext_iff_of_nodup ha hb).mpr h).length_eq
theorem rs_module : ll_s_module rr_Rel := by
  intro u w x y hR
  have h' := rr_thrown 0 hR
  obtain ⟨hM, hRg, hF, hT, hS, φ, ms, S, r, Z, G, hG, hL, hN, hD, hB⟩ := hR
  have hL' : rr_L (va_up w.1 0 0, w.2) ms r Z G := hL
  have hD' : rr_D u (va_up w.1 0 0, w.2) φ ms S r Z := hD
  have hl12 := rr_len hL
  have h12 : ∀ k ∈ ms, k < 12 := fun k hk => ((hL.1 k).mp hk).1
  unfold zf_Loader_module qf_Model_module
  simp only [xx_nm]
  rcases rr_modf hL' hD' x with ⟨m, hm, h2, h3, h4⟩ | ⟨h1, h3, h4⟩
  · obtain ⟨o1, nd, ns, o2, o3, o4, o5, o6, o7⟩ := hD.2.2.2.2 m hm
    have hm12 := h12 m hm
    rw [h3, h4, rr_b2s, rr_b2s]
    simp only [xx_on]
    rw [if_neg (nI_pos (by omega))]
    by_cases c : y < 0
    · refine ⟨-1, u, (va_up w.1 0 0, w.2), ?_, by rw [if_pos c]; rfl, h'⟩
      rw [if_neg (fun z => by rw [z] at c; exact absurd c (by decide)), if_neg (fun z => by rw [z] at c; exact absurd c (by decide)), if_neg (fun z => by rw [z] at c; exact absurd c (by decide)), if_neg (fun z => by rw [z] at c; exact absurd c (by decide)), if_neg (fun z => by rw [z] at c; exact absurd c (by decide))]
    rw [if_neg c]
    by_cases c4 : y ≤ 4
    · rw [if_pos c4]
      obtain ⟨j, hj, rfl⟩ := nI_of2 (M := 4) (n := 4) (by decide) c c4
      have hs1 : ∀ j, j < 12 → ((va_up w.1 0 0, w.2) : qm_S).2 6 j = 0 ∨ ((va_up w.1 0 0, w.2) : qm_S).2 6 j = 1 := hL.2.1
      match j, hj with
      | 0, _ =>
        refine ⟨w.2 8 m, u, (va_up w.1 0 0, w.2), ?_, ?_, h'⟩
        · rw [if_pos (show nI 0 = 0 from rfl), rr_pi o1 o2 rfl]; rfl
        · rw [if_neg (by decide), if_pos (show nI 0 = 0 from rfl), rr_ag hm12 (by decide)]; rfl
      | 1, _ =>
        refine ⟨w.2 9 m, u, (va_up w.1 0 0, w.2), ?_, ?_, h'⟩
        · rw [if_neg (by decide), if_pos (show nI 1 = 1 from rfl), rr_pi o1 o2 rfl]; rfl
        · rw [if_neg (by decide), if_neg (by decide), rr_ag hm12 (by decide)]; rfl
      | 2, _ =>
        refine ⟨nI (rr_cnt w S m), u, (va_up w.1 0 0, w.2), ?_, ?_, h'⟩
        · rw [if_neg (by decide), if_neg (by decide), if_pos (show nI 2 = 2 from rfl), rr_pi o1 o2 rfl]; rfl
        · rw [if_pos (by decide)]
          have h := rr_exm (w := (va_up w.1 0 0, w.2)) (m := m) (S := S) hB.2.2.1 hB.1 40 0 4959 (by decide)
          rw [Nat.zero_min] at h
          rw [show rr_cnt (va_up w.1 0 0, w.2) 0 m = 0 from rfl, nI_0] at h
          exact h
      | 3, _ =>
        refine ⟨nI ((ms.filter (fun j => decide (w.2 12 (12 * j + m) = 1))).length), u, (va_up w.1 0 0, w.2), ?_, ?_, h'⟩
        · rw [if_neg (by decide), if_neg (by decide), if_neg (by decide), if_pos (show nI 3 = 3 from rfl), rr_hown0 hD hN h12 hl12 hm, rr_b2s]
        · rw [if_pos (by decide)]
          refine (rr_cneed0 (w := (va_up w.1 0 0, w.2)) (m := m) 3 (fun j => 12 * j + m) (by decide) (by decide) (fun j hj => by omega) (fun j hj => ⟨(hN j hj m hm12).1, fun z => ((hL.1 j).mp ((hN j hj m hm12).2 z).1).2⟩) hs1 (Or.inl ⟨rfl, fun _ => rfl⟩)).trans ?_
          congr 3
          refine rr_lenf (List.Pairwise.filter _ List.nodup_range) (List.Pairwise.filter _ (rr_nodup hL)) (fun k => ?_)
          simp only [List.mem_filter, List.mem_range, decide_eq_true_eq]
          exact ⟨fun z => ⟨((hN k z.1 m hm12).2 z.2).1, z.2⟩, fun z => ⟨h12 k z.1, z.2⟩⟩
      | 4, _ =>
        refine ⟨nI ns.length, u, (va_up w.1 0 0, w.2), ?_, ?_, h'⟩
        · rw [if_neg (by decide), if_neg (by decide), if_neg (by decide), if_neg (by decide), if_pos (show nI 4 = 4 from rfl), rr_okp o1 o2, Option.bind_some, zf_LoadedModule_neededCount, rr_pi o1 o2 rfl]; rfl
        · rw [if_pos (by decide)]
          refine (rr_cneed0 (w := (va_up w.1 0 0, w.2)) (m := m) 4 (fun j => 12 * m + j) (by decide) (by decide) (fun j hj => by omega) (fun j hj => ⟨(hN m hm12 j hj).1, fun z => ((hL.1 j).mp ((hN m hm12 j hj).2 z).2.1).2⟩) hs1 (Or.inr ⟨by decide, fun _ => rfl⟩)).trans ?_
          congr 3
          refine rr_lenf (List.Pairwise.filter _ List.nodup_range) o4 (fun k => ?_)
          simp only [List.mem_filter, List.mem_range, decide_eq_true_eq]
          exact (o6 k).symm
    · refine ⟨-1, u, (va_up w.1 0 0, w.2), ?_, by rw [if_neg c4]; rfl, h'⟩
      rw [if_neg (fun z => c4 (by rw [z]; decide)), if_neg (fun z => c4 (by rw [z]; decide)), if_neg (fun z => c4 (by rw [z]; decide)), if_neg (fun z => c4 (by rw [z]; decide)), if_neg (fun z => c4 (by rw [z]; decide))]
  · rw [h3, h4]
    exact ⟨-1, u, (va_up w.1 0 0, w.2), rfl, by rw [rr_b2s, if_pos (by decide)]; rfl, h'⟩
