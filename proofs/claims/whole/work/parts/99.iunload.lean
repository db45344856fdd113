/-! unload -/
theorem rr_isnl {w : qm_S} {ms : List Nat} {m : Nat} (h6 : ∀ k, k < 12 → w.2 6 k = 0 ∨ w.2 6 k = 1) (hms : ∀ k, k ∈ ms ↔ k < 12 ∧ w.2 6 k = 1) (hN : rr_N w ms) (hm : m < 12) : ∀ (d k n : Nat) (acc : Bool), k + d = 12 → qf_Model_isNeeded_b4 (n + d + 1) w (nI m) (rr_bi acc) (nI k) = some (rr_bi (acc || (List.range' k d).any (fun j => decide (w.2 12 (12 * j + m) = 1))), w) := by
  intro d
  induction d with
  | zero =>
    intro k n acc h
    have e : k = 12 := by omega
    subst e
    rw [qf_Model_isNeeded_b4, if_pos (show (12 : Int32) ≤ nI 12 from nI_le (a := 12) (Nat.le_refl _) (by decide))]
    cases acc
    · rw [rr_bif, rr_nb0]; rfl
    · rw [rr_bit, rr_nb1]; rfl
  | succ d ih =>
    intro k n acc h
    have hk : k < 12 := by omega
    have y0 : qf_Model_isNeeded_b46 (qf_Model_isNeeded_b4 (n + d + 1)) w (nI m) (nI k) = qf_Model_isNeeded_b4 (n + d + 1) w (nI m) (rr_bi false) (nI (k + 1)) := by
      rw [qf_Model_isNeeded_b46, qf_Model_isNeeded_b47, rr_nm, nI_1]
      rfl
    have y1 : qf_Model_isNeeded_b42 (qf_Model_isNeeded_b4 (n + d + 1)) w (nI m) (nI k) = qf_Model_isNeeded_b4 (n + d + 1) w (nI m) (rr_bi true) (nI (k + 1)) := by
      rw [qf_Model_isNeeded_b42, qf_Model_isNeeded_b47, rr_nm, nI_1]
      rfl
    have st : qf_Model_isNeeded_b4 (n + (d + 1) + 1) w (nI m) (rr_bi acc) (nI k) = qf_Model_isNeeded_b4 (n + d + 1) w (nI m) (rr_bi (acc || decide (w.2 12 (12 * k + m) = 1))) (nI (k + 1)) := by
      rw [qf_Model_isNeeded_b4, if_neg (show ¬ (12 : Int32) ≤ nI k from nI_ge (b := 12) (by omega) (by decide)), show n + (d + 1) = n + d + 1 from rfl]
      cases acc
      · rw [if_pos rr_bif, rr_ag hk (by decide), Option.bind_some, Bool.false_or]
        rcases h6 k hk with q | q
        · rw [q, if_pos rfl, y0, decide_eq_false (fun z => by have := ((hms k).mp ((hN k hk m hm).2 z).1).2; rw [q] at this; exact absurd this (by decide))]
        · rw [q, if_neg (by decide)]
          by_cases c : k = m
          · rw [if_pos (by rw [c]), y0, decide_eq_false (fun z => ((hN k hk m hm).2 z).2.2 c)]
          · rw [if_neg (fun z => c ((nI_eq (by omega) (by omega)).mp z)), show (12 : Int32) * nI k = nI (12 * k) from pk_mul 12 k, nI_add, rr_ag (by omega) (by decide), Option.bind_some]
            rcases (hN k hk m hm).1 with q | q
            · rw [q, if_pos rfl, y0, decide_eq_false (by decide)]
            · rw [q, if_neg (by decide), y1, decide_eq_true rfl]
      · rw [if_neg (by decide), y1]
        rfl
    rw [st, ih (k + 1) n _ (by omega), List.range'_succ, List.any_cons, Bool.or_assoc]
theorem rr_isn {w : qm_S} {ms : List Nat} {m : Nat} (h6 : ∀ k, k < 12 → w.2 6 k = 0 ∨ w.2 6 k = 1) (hms : ∀ k, k ∈ ms ↔ k < 12 ∧ w.2 6 k = 1) (hN : rr_N w ms) (hm : m < 12) : qf_Model_isNeeded w (nI m) = some (rr_bi ((List.range 12).any (fun j => decide (w.2 12 (12 * j + m) = 1))), w) := by
  have h := rr_isnl h6 hms hN hm 12 0 4987 false (by decide)
  rw [Bool.false_or, ← List.range_eq_range', nI_0] at h
  exact h
theorem rr_hasF (u : zz_S) : zf_Report_hasFault u = some (if u.1 17 = 0 then 0 else 1, u) := by
  unfold zf_Report_hasFault
  by_cases c : u.1 17 = 0
  · rw [if_pos c, if_pos c, zf_Report_hasFault_b12, rr_nb0]
  · rw [if_neg c, if_neg c, zf_Report_hasFault_b12, rr_nb1]
theorem rs_unload : ll_s_unload rr_Rel := by
  intro u w x d hR
  have hR0 := hR
  obtain ⟨hM, hRg, hF, hT, hS, φ, ms, S, r, Z, G, hE⟩ := hR
  obtain ⟨hG, hL, hN, hD, hB⟩ := hE
  have hl12 := rr_len hL
  have h12 : ∀ k ∈ ms, k < 12 := fun k hk => ((hL.1 k).mp hk).1
  unfold zp_Loader_unload qf_Model_unload
  have bad : ∀ v : Int32, qf_Model_unload_b22 w d v = some (va_up w.1 0 1, w.2) := fun v => rfl
  rcases rr_modf hL hD x with ⟨m, hm, h2, h3, h4⟩ | ⟨h1, h3, h4⟩
  · obtain ⟨o1, nd, ns, o2, o3, o4, o5, o6, o7⟩ := hD.2.2.2.2 m hm
    have hm12 := h12 m hm
    rw [h4, rr_b2s, if_neg (nI_pos (by omega))]
    cases hf : rr_fuB d
    · refine ⟨(va_up w.1 0 1, w.2), 1, (va_up w.1 0 1, w.2), ?_, rfl, fun Po Px g0 g1 g2 => ?_⟩
      · by_cases c : d < 0
        · rw [if_pos c]; exact bad _
        · have c2 : ¬ d ≤ 2000 := fun z => by simp [rr_fuB, c, z] at hf
          rw [if_neg c, if_neg c2]; exact bad _
      · exact ⟨_, _, h3, fun h => (by cases h), fun a3 h => ⟨_, _, rr_isFuel u d, fun _ => g1 u rfl hR0, fun h => absurd (by rw [hf]; rfl) h⟩⟩
    · obtain ⟨c1, c2, F, hF2, rfl⟩ := rr_fuN hf
      rw [if_neg c1, if_pos c2]
      have hT' : rr_T (rr_zc u) (rr_qc (va_up w.1 0 0, w.2)) := hT
      have hS' : rr_S (rr_zc u) (rr_qc (va_up w.1 0 0, w.2)) := hS
      have hE' : rr_E (rr_zc u) (rr_qc (va_up w.1 0 0, w.2)) φ ms S r Z G := ⟨hG, hL, hN, hD, hB⟩
      have hR' : rr_R0 (rr_zc u) (rr_qc (va_up w.1 0 0, w.2)) := ⟨hM, hRg, ⟨rfl, rfl, rfl, rfl, rfl⟩, hT', hS'⟩
      have hDz : rr_D (rr_zc u) w φ ms S r Z := hD
      have en := rr_hown0 hDz hN h12 hl12 hm
      have eq := rr_isn (w := rr_qc (va_up w.1 0 0, w.2)) (ms := ms) (m := m) hL.2.1 hL.1 hN hm12
      have hq : qf_Model_unload_b27 w (nI F) (nI m) 0 = if rr_bi ((List.range 12).any (fun j => decide (w.2 12 (12 * j + m) = 1))) = 0 then (if w.2 11 m = -1 then qf_Model_unload_b114 (rr_qc (va_up w.1 0 0, w.2)) (nI m) else xx_b2 (qf_Model_runs (rr_qc (va_up w.1 0 0, w.2)) (w.2 8 m + w.2 11 m) 0 0 (nI F)) fun v9 u8 => if v9 = 0 then (if (u8.1 19) ≤ 0 then (qf_Model_unload_b109 u8 (nI m) (9 : Int32)) else (qf_Model_unload_b109 u8 (nI m) (8 : Int32))) else (qf_Model_unload_b114 u8 (nI m))) else qf_Model_unload_b114 (va_up (va_up (rr_qc (va_up w.1 0 0, w.2)).1 17 11) 18 (-1), w.2) (nI m) := by
        unfold qf_Model_unload_b27
        rw [rr_nm, if_pos (show va_up w.1 0 0 0 ≤ 0 by rw [rr_upS]; decide), rr_fresh, Option.bind_some, eq, rr_b2s, rr_ag hm12 (by decide), Option.bind_some, rr_ag hm12 (by decide), Option.bind_some, Option.bind_some]
        rfl
      have hz : ∀ (Po : Option Value → zz_S → Prop) (Px : String → zz_S → Prop), (¬ nI ((ms.filter (fun j => decide (w.2 12 (12 * j + m) = 1))).length) ≤ 0 → zp_Loader_unload_b83 Po Px (va_up (va_up (rr_zc u).1 17 11) 18 (-1), u.2) (some (φ m))) → (nI ((ms.filter (fun j => decide (w.2 12 (12 * j + m) = 1))).length) ≤ 0 → w.2 11 m = -1 → zp_Loader_unload_b83 Po Px (rr_zc u) (some (φ m))) → (nI ((ms.filter (fun j => decide (w.2 12 (12 * j + m) = 1))).length) ≤ 0 → w.2 11 m ≠ -1 → ∃ u2, zf_Loader_execute (rr_zc u) (w.2 8 m + w.2 11 m) 0 0 (nI F) = some u2 ∧ zp_Loader_unload_b83 Po Px u2 (some (φ m))) → zp_Loader_unload Po Px u x (nI F) := fun Po Px a1 a2 a3 => by
        refine ⟨_, _, h3, fun h => (by cases h), fun a3 h => ?_⟩
        cases h
        refine ⟨_, _, rr_isFuel u _, fun h => absurd h (by rw [hf]; decide), fun _ => ⟨_, rr_clear u, _, _, en, fun c => ?_, fun c => ⟨_, rfl, a1 c⟩⟩⟩
        refine ⟨_, rr_pi (u := rr_zc u) o1 o2 rfl, fun c3 => a2 c c3, fun c3 => ?_⟩
        obtain ⟨u2, b1, b2⟩ := a3 c c3
        exact ⟨_, rr_pi (u := rr_zc u) o1 o2 rfl, _, rr_pi (u := rr_zc u) o1 o2 rfl, _, b1, b2⟩
      rw [hq]
      by_cases cn : (List.range 12).any (fun j => decide (w.2 12 (12 * j + m) = 1)) = true
      · have cz : ¬ nI ((ms.filter (fun j => decide (w.2 12 (12 * j + m) = 1))).length) ≤ 0 := by
          rw [List.any_eq_true] at cn
          obtain ⟨j, j1, j2⟩ := cn
          have j3 := (hN j (List.mem_range.mp j1) m hm12).2 (decide_eq_true_iff.mp j2)
          have : 0 < (ms.filter (fun j => decide (w.2 12 (12 * j + m) = 1))).length := List.length_pos_of_mem (List.mem_filter.mpr ⟨j3.1, j2⟩)
          have l2 := List.length_filter_le (fun j => decide (w.2 12 (12 * j + m) = 1)) ms
          exact nI_nle this (by omega)
        rw [cn, if_neg (by decide)]
        refine ⟨(va_up (va_up (va_up (rr_qc (va_up w.1 0 0, w.2)).1 17 11) 18 (-1)) 0 2, w.2), 2, (va_up (va_up (va_up (rr_qc (va_up w.1 0 0, w.2)).1 17 11) 18 (-1)) 0 2, w.2), rfl, rfl, fun Po Px g0 g1 g2 => ?_⟩
        refine hz Po Px (fun _ => ?_) (fun z => absurd z cz) (fun z => absurd z cz)
        refine ⟨_, _, rr_hasF _, fun h => absurd h (by rw [if_neg (show ¬ ((va_up (va_up (rr_zc u).1 17 11) 18 (-1), u.2) : zz_S).1 17 = 0 from (by decide : ¬ (11 : Int32) = 0))]; decide), fun _ => g2 _ rfl ?_⟩
        exact rr_R0E ⟨hM, hRg, ⟨rfl, rfl, rfl, rfl, rfl⟩, hT, hS⟩ ⟨hG, hL, hN, hD, hB⟩
      · rw [Bool.not_eq_true] at cn
        have hno : ∀ k, k < 12 → w.2 12 (12 * k + m) ≠ 1 := fun k hk z => by
          rw [List.any_eq_false] at cn
          exact cn k (List.mem_range.mpr hk) (decide_eq_true z)
        have cz : nI ((ms.filter (fun j => decide (w.2 12 (12 * j + m) = 1))).length) ≤ 0 := by
          have : (ms.filter (fun j => decide (w.2 12 (12 * j + m) = 1))) = [] := by
            rw [List.filter_eq_nil_iff]
            intro k hk z
            exact hno k (h12 k hk) (decide_eq_true_iff.mp z)
          rw [this]
          decide
        rw [cn, if_pos rr_bif]
        have out : ∀ (u2 : zz_S) (y : Nat → Int32) (W : Nat → Nat → Int32), y 17 = 0 → u2.1 17 = 0 → rr_R0 u2 (va_up y 0 0, W) → rr_E u2 (va_up y 0 0, W) φ ms S r Z G → W 12 = w.2 12 → ∃ (w1 : qm_S), qf_Model_unload_b114 (y, W) (nI m) = some w1 ∧ w1.1 0 = 0 ∧ ∀ (Po : Option Value → zz_S → Prop) (Px : String → zz_S → Prop), (∀ u1, rr_Rel u1 w1 → Po none u1) → zp_Loader_unload_b83 Po Px u2 (some (φ m)) := fun u2 y W e1 e2 hr he e3 => by
          obtain ⟨u3, w1, S1, t1, t2, t3, t4, t5, t6, t7⟩ := rr_take he hm (by rw [show ((va_up y 0 0, W) : qm_S).2 12 = w.2 12 from e3]; exact hno)
          refine ⟨w1, ?_, (t5 0 (by decide)).trans rfl, fun Po Px g => ?_⟩
          · unfold qf_Model_unload_b114
            rw [if_pos (show y 17 ≤ 0 by rw [e1]; decide), qf_Model_unload_b127, rr_nm, if_pos (show va_up y 0 0 17 = 0 from e1), t2]
            rfl
          · refine ⟨_, _, rr_hasF _, fun _ => ⟨_, t1, g u3 (rr_R0E (rr_R0t hr t3 t4 t5 t6) t7)⟩, fun h => absurd (if_pos e2) h⟩
        by_cases ce : w.2 11 m = -1
        · rw [if_pos ce]
          obtain ⟨w1, a1, a2, a3⟩ := out (rr_zc u) (rr_qc (va_up w.1 0 0, w.2)).1 w.2 rfl rfl ⟨hM, hRg, ⟨rfl, rfl, rfl, rfl, rfl⟩, hT, hS⟩ ⟨hG, hL, hN, hD, hB⟩ rfl
          refine ⟨w1, 0, w1, a1, by rw [qf_Model_thrown, a2], fun Po Px g0 g1 g2 => ?_⟩
          exact hz Po Px (fun z => absurd cz z) (fun _ _ => a3 Po Px (fun u1 h => g0 u1 rfl h)) (fun _ z => absurd ce z)
        · rw [if_neg ce]
          obtain ⟨t, u1, u2, w1, b1, e1, e2, hr, k1, k2, k3, k4, k5, kt, kf⟩ := rr_exec (u := rr_zc u) (w := rr_qc (va_up w.1 0 0, w.2)) hS' hG hL hM (w.2 8 m + w.2 11 m) 0 0 hF2 rfl rfl rfl rfl
          have fq := hr.2.1
          have q17 : w1.1 17 = 0 := fq.1 17 (by decide) (by decide) (by decide) (by decide)
          have q18 : w1.1 18 = -1 := fq.1 18 (by decide) (by decide) (by decide) (by decide)
          have q19 : w1.1 19 = nI t := hr.2.2.2.2.2.1
          have t6 : t ≤ 6 := hr.2.2.2.2.2.2.2.1
          rw [e2, rr_b2s]
          cases b1
          · obtain ⟨f1, f2⟩ := kf rfl
            have fin : ∀ f : Int32, f = u2.1 17 → ¬ f ≤ 0 → ¬ f = 0 → ∃ (w2 : qm_S) (k : Int32) (w3 : qm_S), qf_Model_unload_b109 w1 (nI m) f = some w2 ∧ qf_Model_thrown w2 = some (k, w3) ∧ ∀ (Po : Option Value → zz_S → Prop) (Px : String → zz_S → Prop), (∀ u1, k = 0 → rr_Rel u1 w3 → Po none u1) → (∀ u1, k = 1 → rr_Rel u1 w3 → Px "java/lang/IllegalArgumentException" u1) → (∀ u1, k = 2 → rr_Rel u1 w3 → Px "java/lang/IllegalStateException" u1) → zp_Loader_unload Po Px u x (nI F) := fun f hf0 hf1 hf2 => by
              refine ⟨(va_up (va_up (va_up w1.1 17 f) 18 (-1)) 0 2, w1.2), 2, (va_up (va_up (va_up w1.1 17 f) 18 (-1)) 0 2, w1.2), ?_, rfl, fun Po Px g0 g1 g2 => ?_⟩
              · unfold qf_Model_unload_b109 qf_Model_wrong
                rw [rr_nm, rr_nm, rr_b2s, qf_Model_unload_b114, if_neg (show ¬ va_up (va_up w1.1 17 f) 18 (-1) 17 ≤ 0 from hf1), qf_Model_unload_b127, rr_nm, if_neg (show ¬ va_up (va_up (va_up w1.1 17 f) 18 (-1)) 0 2 17 = 0 from hf2)]
                rfl
              · refine hz Po Px (fun z => absurd cz z) (fun _ z => absurd z ce) (fun _ _ => ⟨u2, e1, ?_⟩)
                refine ⟨_, _, rr_hasF _, fun h => absurd h (by rw [if_neg (fun z => hf2 (hf0.trans z))]; decide), fun _ => g2 u2 rfl ?_⟩
                have := rr_aft hT' hS' hE' hr k1 k2 (va_up (va_up (va_up w1.1 17 f) 18 (-1)) 0 2) rfl rfl rfl ⟨hf0, f2.symm, q19.trans k3.symm, k4.symm, k5.symm⟩
                exact rr_R0E this.1 this.2
            rw [if_pos rr_bif, q19]
            by_cases t0 : t = 0
            · rw [if_pos t0] at f1
              rw [if_pos (by rw [t0]; decide)]
              exact fin 9 f1.symm (by decide) (by decide)
            · rw [if_neg t0] at f1
              rw [if_neg (show ¬ nI t ≤ 0 from nI_ge (a := 0) (by omega) (by omega))]
              exact fin 8 f1.symm (by decide) (by decide)
          · obtain ⟨f1, f2⟩ := kt rfl
            rw [if_neg (by decide)]
            have ha := rr_aft hT' hS' hE' hr k1 k2 (va_up w1.1 0 0) rfl rfl rfl ⟨q17.trans f1.symm, q18.trans f2.symm, q19.trans k3.symm, k4.symm, k5.symm⟩
            obtain ⟨w2, a1, a2, a3⟩ := out u2 w1.1 w1.2 q17 f1 ha.1 ha.2 (fq.2 12 (by decide) (by decide))
            refine ⟨w2, 0, w2, a1, by rw [qf_Model_thrown, a2], fun Po Px g0 g1 g2 => ?_⟩
            exact hz Po Px (fun z => absurd cz z) (fun _ z => absurd z ce) (fun _ _ => ⟨u2, e1, a3 Po Px (fun u1 h => g0 u1 rfl h)⟩)
  · refine ⟨(va_up w.1 0 1, w.2), 1, (va_up w.1 0 1, w.2), ?_, rfl, fun Po Px g0 g1 g2 => ?_⟩
    · rw [h4, rr_b2s, if_pos (by decide)]; exact bad _
    · exact ⟨_, _, h3, fun _ => g1 u rfl hR0, fun _ h => (by cases h)⟩
