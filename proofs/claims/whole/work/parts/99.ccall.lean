/-! call, whole -/
theorem rs_call : ll_s_call rr_Rel := by
  intro u w x a b d hR
  have hR0 := hR
  obtain ⟨hM, hRg, hF, hT, hS, φ, ms, S, r, Z, G, hE⟩ := hR
  obtain ⟨hG, hL, hN, hD, hB⟩ := hE
  unfold zp_Loader_call qf_Model_call
  have bad : ∀ v : Int32, qf_Model_call_b26 w a b d v = some (0, (va_up w.1 0 1, w.2)) := fun v => rfl
  rcases rr_find hB x with ⟨j, h1, h2, h3, h4⟩ | ⟨h1, h3, h4⟩
  · obtain ⟨q, ow, y1, y2, y3, y4⟩ := hB.2.2.2 j h1
    have hS40 := hB.1
    rw [h4, rr_b2s, if_neg (nI_pos (by omega))]
    cases hf : rr_fuB d
    · refine ⟨0, (va_up w.1 0 1, w.2), 1, (va_up w.1 0 1, w.2), ?_, rfl, fun Po Px g0 g1 g2 => ?_⟩
      · by_cases c : d < 0
        · rw [if_pos c]; exact bad _
        · have c2 : ¬ d ≤ 2000 := fun z => by simp [rr_fuB, c, z] at hf
          rw [if_neg c, if_neg c2]; exact bad _
      · refine ⟨_, _, h3, fun h => ?_, fun a3 h => ⟨_, _, rr_isFuel u d, fun _ => g1 u rfl hR0, fun h => absurd (by rw [hf]; rfl) h⟩⟩
        rw [y1] at h
        cases h
    · obtain ⟨c1, c2, F, hF2, rfl⟩ := rr_fuN hf
      rw [if_neg c1, if_pos c2]
      obtain ⟨t, u1, u2, w1, b1, e1, e2, hr, k1, k2, k3, k4, k5, kt, kf⟩ := rr_exec (u := rr_zc u) (w := rr_qc (va_up w.1 0 0, w.2)) hS hG hL hM (w.2 4 j) a b hF2 rfl rfl rfl rfl
      have fq := hr.2.1
      have q17 : w1.1 17 = 0 := fq.1 17 (by decide) (by decide) (by decide) (by decide)
      have q18 : w1.1 18 = -1 := fq.1 18 (by decide) (by decide) (by decide) (by decide)
      have q19 : w1.1 19 = nI t := hr.2.2.2.2.2.1
      have t6 : t ≤ 6 := hr.2.2.2.2.2.2.2.1
      have hq : qf_Model_call_b31 w a b (nI F) (nI j) 0 = if rr_bi b1 = 0 then (if w1.1 19 ≤ 0 then qf_Model_call_b80 w1 9 else qf_Model_call_b80 w1 8) else qf_Model_call_b85 w1 := by
        unfold qf_Model_call_b31
        simp only [xx_nm, rr_upS]
        rw [if_pos (show (0 : Int32) ≤ 0 from by decide), rr_fresh, Option.bind_some, rr_ag (by omega) (by decide), Option.bind_some]
        show xx_b2 (qf_Model_runs (rr_qc (va_up w.1 0 0, w.2)) (w.2 4 j) a b (nI F)) _ = _
        rw [e2, rr_b2s]
      have hz : ∀ (P : zz_S → Prop), P u2 → xw_b (zf_Report_clear u) fun u6 => xw_b (zz_pi u6 q 7 2) fun v7 => xw_b (zf_Loader_execute u6 v7 a b (nI F)) fun u8 => P u8 := fun P hp => ⟨_, rr_clear u, _, rr_pi (u := rr_zc u) y2 y3 rfl, _, e1, hp⟩
      have hT' : rr_T (rr_zc u) (rr_qc (va_up w.1 0 0, w.2)) := hT
      have hE' : rr_E (rr_zc u) (rr_qc (va_up w.1 0 0, w.2)) φ ms S r Z G := ⟨hG, hL, hN, hD, hB⟩
      cases b1
      · obtain ⟨f1, f2⟩ := kf rfl
        have hw : ∀ f : Int32, f = u2.1 17 → rr_Rel u2 (va_up (va_up (va_up w1.1 17 f) 18 (-1)) 0 2, w1.2) := fun f hf0 => rr_after hT' hS hE' hr k1 k2 (va_up (va_up (va_up w1.1 17 f) 18 (-1)) 0 2) rfl rfl rfl ⟨hf0, f2.symm, q19.trans k3.symm, k4.symm, k5.symm⟩
        have fin : ∀ f : Int32, f = u2.1 17 → ¬ f ≤ 0 → ¬ f = 0 → qf_Model_call_b31 w a b (nI F) (nI j) 0 = qf_Model_call_b80 w1 f → ∃ (r : Int32) (w1 : qm_S) (k : Int32) (w2 : qm_S), qf_Model_call_b31 w a b (nI F) (nI j) 0 = some (r, w1) ∧ qf_Model_thrown w1 = some (k, w2) ∧ ∀ (Po : Option Value → zz_S → Prop) (Px : String → zz_S → Prop), (∀ u1, k = 0 → rr_Rel u1 w2 → Po (some (.int r)) u1) → (∀ u1, k = 1 → rr_Rel u1 w2 → Px "java/lang/IllegalArgumentException" u1) → (∀ u1, k = 2 → rr_Rel u1 w2 → Px "java/lang/IllegalStateException" u1) → zp_Loader_call Po Px u x a b (nI F) := fun f hf0 hf1 hf2 hq2 => by
          refine ⟨0, (va_up (va_up (va_up w1.1 17 f) 18 (-1)) 0 2, w1.2), 2, (va_up (va_up (va_up w1.1 17 f) 18 (-1)) 0 2, w1.2), hq2.trans ?_, rfl, fun Po Px g0 g1 g2 => ?_⟩
          · unfold qf_Model_call_b80 qf_Model_wrong
            simp only [xx_nm, rr_b2s, qf_Model_call_b85]
            rw [if_neg (show ¬ va_up (va_up w1.1 17 f) 18 (-1) 17 ≤ 0 from hf1), qf_Model_call_b98]
            simp only [xx_nm]
            rw [if_neg (show ¬ va_up (va_up (va_up w1.1 17 f) 18 (-1)) 0 2 17 ≤ 0 from hf1)]
            rfl
          · refine ⟨_, _, h3, fun h => ?_, fun a3 h => ⟨_, _, rr_isFuel u _, fun h => absurd h (by rw [hf]; decide), fun _ => ?_⟩⟩
            · rw [y1] at h; cases h
            · rw [y1] at h
              cases h
              refine hz _ ⟨1, u2, ?_, fun h => absurd h (by decide), fun _ => g2 u2 rfl (hw f hf0)⟩
              unfold zf_Report_hasFault
              rw [if_neg (show ¬ u2.1 17 = 0 from fun z => hf2 (hf0.trans z)), zf_Report_hasFault_b12, rr_nb1]
        rw [if_pos rr_bif, q19] at hq
        by_cases t0 : t = 0
        · rw [if_pos t0] at f1
          rw [if_pos (by rw [t0]; decide)] at hq
          exact fin 9 f1.symm (by decide) (by decide) hq
        · rw [if_neg t0] at f1
          rw [if_neg (show ¬ nI t ≤ 0 from nI_ge (a := 0) (by omega) (by omega))] at hq
          exact fin 8 f1.symm (by decide) (by decide) hq
      · obtain ⟨f1, f2⟩ := kt rfl
        rw [if_neg (by decide)] at hq
        refine ⟨w1.1 21, (va_up w1.1 0 0, w1.2), 0, (va_up w1.1 0 0, w1.2), hq.trans ?_, rfl, fun Po Px g0 g1 g2 => ?_⟩
        · unfold qf_Model_call_b85
          rw [if_pos (show w1.1 17 ≤ 0 from by rw [q17]; decide), qf_Model_call_b98]
          simp only [xx_nm]
          rw [if_pos (show va_up w1.1 0 0 17 ≤ 0 from by show w1.1 17 ≤ 0; rw [q17]; decide)]
          rfl
        · refine ⟨_, _, h3, fun h => ?_, fun a3 h => ⟨_, _, rr_isFuel u _, fun h => absurd h (by rw [hf]; decide), fun _ => ?_⟩⟩
          · rw [y1] at h; cases h
          · rw [y1] at h
            cases h
            refine hz _ ⟨0, u2, ?_, fun _ => ?_, fun h => absurd rfl h⟩
            · unfold zf_Report_hasFault
              rw [if_pos f1, zf_Report_hasFault_b12, rr_nb0]
            · rw [k5]
              exact g0 u2 rfl (rr_after hT' hS hE' hr k1 k2 (va_up w1.1 0 0) rfl rfl rfl ⟨q17.trans f1.symm, q18.trans f2.symm, q19.trans k3.symm, k4.symm, k5.symm⟩)
  · refine ⟨0, (va_up w.1 0 1, w.2), 1, (va_up w.1 0 1, w.2), ?_, rfl, fun Po Px g0 g1 g2 => ?_⟩
    · rw [h4, rr_b2s, if_pos (by decide)]; exact bad _
    · exact ⟨_, _, h3, fun _ => g1 u rfl hR0, fun _ h => (by cases h)⟩
