/-! a run of the machine on both sides -/
def rr_fz3 (u u1 : zz_S) : Prop := (∀ k, k ≠ 1 → k ≠ 2 → k ≠ 3 → u1.1 k = u.1 k) ∧ u1.2.1 1 = u.2.1 1 ∧ u1.2.1 3 = u.2.1 3 ∧ u1.2.2 = u.2.2
def rr_fq3 (w w1 : qm_S) : Prop := (∀ k, k ≠ 19 → k ≠ 20 → k ≠ 21 → k ≠ 30 → w1.1 k = w.1 k) ∧ ∀ k, k ≠ 1 → k ≠ 14 → w1.2 k = w.2 k
theorem rr_Gz {u u1 : zz_S} {ms : List Nat} {r G : Nat → Nat} (h : rr_G u ms r G) (h0 : u1.1 0 = u.1 0) (h1 : u1.2.1 1 = u.2.1 1) : rr_G u1 ms r G := by
  intro i hi
  rw [h0, h1]
  exact h i hi
theorem rr_Lq {w w1 : qm_S} {ms : List Nat} {r Z G : Nat → Nat} (h : rr_L w ms r Z G) (h6 : w1.2 6 = w.2 6) (h8 : w1.2 8 = w.2 8) (h9 : w1.2 9 = w.2 9) (h10 : w1.2 10 = w.2 10) : rr_L w1 ms r Z G := by
  unfold rr_L
  rw [h6, h8, h9, h10]
  exact h
def rr_ran (u u1 : zz_S) (w w1 : qm_S) (b : Bool) (t : Nat) : Prop := rr_fz3 u u1 ∧ rr_fq3 w w1 ∧ rr_P u1 w1 ∧ w1.2 14 0 = 0 ∧ u1.1 1 = nI t ∧ w1.1 19 = nI t ∧ w1.1 20 = u1.1 2 ∧ t ≤ 6 ∧ (b = true ↔ t = 0 ∧ u1.1 3 = -4) ∧ (b = true → w1.1 21 = u1.2.1 2 10) ∧ (b = false → w1.1 21 = w.1 21)
theorem rr_runl {ms : List Nat} {r Z G : Nat → Nat} {F : Nat} (hF : F ≤ 2000) : ∀ (d s n : Nat) (u : zz_S) (w : qm_S), s + d = F → rr_S u w → rr_G u ms r G → rr_L w ms r Z G → rr_P u w → w.2 14 0 = 0 → w.1 30 = u.1 3 → u.1 1 = 0 → u.1 2 = nI s → w.1 20 = nI s → w.1 19 = 0 → ∃ (t : Nat) (u1 : zz_S) (w1 : qm_S) (b : Bool), zf_Machine_run_b56 (n + d + 2) u (nI F) = some u1 ∧ qf_Model_runs_b62 (n + d + 2) w (nI F) = some (rr_bi b, w1) ∧ rr_ran u u1 w w1 b t := by
  intro d
  induction d with
  | zero =>
    intro s n u w h hS hG hL hP h0 hpc ht hs hm htr
    have e : s = F := by omega
    subst e
    by_cases c : u.1 3 = -4
    · refine ⟨0, u, (va_up w.1 21 (w.2 14 10), w.2), true, ?_, ?_, ⟨fun _ _ _ _ => rfl, rfl, rfl, rfl⟩, ⟨fun k _ _ hk _ => rr_upN _ _ hk, fun _ _ _ => rfl⟩, hP, h0, ht, htr, hm.trans hs.symm, by decide, ⟨fun _ => ⟨rfl, c⟩, fun _ => rfl⟩, fun _ => hP.2.1 10 (by decide) (by decide), fun h => (by cases h)⟩
      · rw [zf_Machine_run_b56, if_pos c]; rfl
      · rw [qf_Model_runs_b62, if_pos (hpc.trans c), show (10 : Int32) = nI 10 from rfl, rr_ag (by decide) (by decide), Option.bind_some]
        simp only [xx_nm]
        rw [rr_nb1]
        rfl
    · refine ⟨0, u, w, false, ?_, ?_, ⟨fun _ _ _ _ => rfl, rfl, rfl, rfl⟩, ⟨fun _ _ _ _ _ => rfl, fun _ _ _ => rfl⟩, hP, h0, ht, htr, hm.trans hs.symm, by decide, ⟨fun h => (by cases h), fun h => absurd h.2 c⟩, fun h => (by cases h), fun _ => rfl⟩
      · rw [zf_Machine_run_b56, if_neg c, if_pos ht, if_pos (by rw [hs]; exact nI_le (Nat.le_refl _) (by omega))]; rfl
      · rw [qf_Model_runs_b62, if_neg (fun z => c (hpc.symm.trans z)), if_pos hm, rr_nb0]; rfl
  | succ d ih =>
    intro s n u w h hS hG hL hP h0 hpc ht hs hm htr
    by_cases c : u.1 3 = -4
    · refine ⟨0, u, (va_up w.1 21 (w.2 14 10), w.2), true, ?_, ?_, ⟨fun _ _ _ _ => rfl, rfl, rfl, rfl⟩, ⟨fun k _ _ hk _ => rr_upN _ _ hk, fun _ _ _ => rfl⟩, hP, h0, ht, htr, hm.trans hs.symm, by decide, ⟨fun _ => ⟨rfl, c⟩, fun _ => rfl⟩, fun _ => hP.2.1 10 (by decide) (by decide), fun h => (by cases h)⟩
      · rw [zf_Machine_run_b56, if_pos c]; rfl
      · rw [qf_Model_runs_b62, if_pos (hpc.trans c), show (10 : Int32) = nI 10 from rfl, rr_ag (by decide) (by decide), Option.bind_some]
        simp only [xx_nm]
        rw [rr_nb1]
        rfl
    · obtain ⟨t, u3, w5, s1, s2, t6, fz, fq, hP3, hpc3⟩ := rr_step (u := (va_up u.1 2 (nI (s + 1)), u.2)) (w := (va_up w.1 20 (nI (s + 1)), w.2)) hS hG hL hP h0 hpc
      have hne : ¬ w.1 20 = nI F := by rw [hm]; exact fun z => absurd ((nI_eq (by omega) (by omega)).mp z) (by omega)
      have hlt : ¬ nI F ≤ u.1 2 := by rw [hs]; exact nI_ge (by omega) (by omega)
      have z1 : zf_Machine_run_b56 (n + (d + 1) + 2) u (nI F) = zf_Machine_run_b56 (n + d + 2) (va_up u3.1 1 (nI t), u3.2) (nI F) := by
        show zf_Machine_run_b56 ((n + d + 2) + 1) u (nI F) = _
        rw [zf_Machine_run_b56, if_neg c, if_pos ht, if_neg hlt]
        simp only [xx_nm]
        rw [hs, nI_1, s1, rr_b2s]
      have q1 : qf_Model_runs_b62 (n + (d + 1) + 2) w (nI F) = if nI t ≤ 0 then qf_Model_runs_b62 (n + d + 2) (va_up w5.1 19 (nI t), va_up w5.2 14 (va_up (w5.2 14) 0 0)) (nI F) else some (0, (va_up w5.1 19 (nI t), va_up w5.2 14 (va_up (w5.2 14) 0 0))) := by
        show qf_Model_runs_b62 ((n + d + 2) + 1) w (nI F) = _
        rw [qf_Model_runs_b62, if_neg (fun z => c (hpc.symm.trans z)), if_neg hne]
        simp only [xx_nm]
        rw [hm, nI_1, s2, rr_b2s, show (0 : Int32) = nI 0 from rfl, rr_as (by decide) (by decide), Option.bind_some]
        rw [show vp_nar .boolean (nI 0) = nI 0 from by decide]
        rfl
      have hP5 : rr_P (va_up u3.1 1 (nI t), u3.2) (va_up w5.1 19 (nI t), va_up w5.2 14 (va_up (w5.2 14) 0 0)) := ⟨hP3.1, fun k k1 k2 => by
        show va_up (w5.2 14) 0 0 k = u3.2.1 2 k
        rw [rr_upN _ _ (by omega)]
        exact hP3.2.1 k k1 k2, hP3.2.2⟩
      have fzc : ∀ u1, rr_fz3 (va_up u3.1 1 (nI t), u3.2) u1 → rr_fz3 u u1 := fun u1 g => ⟨fun k k1 k2 k3 => by
        rw [g.1 k k1 k2 k3]
        show va_up u3.1 1 (nI t) k = u.1 k
        rw [rr_upN _ _ k1, fz.1 k k3]
        exact rr_upN _ _ k2, g.2.1.trans fz.2.1, g.2.2.1.trans fz.2.2.1, g.2.2.2.trans fz.2.2.2⟩
      have fqc : ∀ w1, rr_fq3 (va_up w5.1 19 (nI t), va_up w5.2 14 (va_up (w5.2 14) 0 0)) w1 → rr_fq3 w w1 := fun w1 g => ⟨fun k k1 k2 k3 k4 => by
        rw [g.1 k k1 k2 k3 k4]
        show va_up w5.1 19 (nI t) k = w.1 k
        rw [rr_upN _ _ k1, fq.1 k k4]
        exact rr_upN _ _ k2, fun k k1 k2 => by
        rw [g.2 k k1 k2]
        show va_up w5.2 14 _ k = w.2 k
        rw [rr_upN _ _ k2, fq.2 k k1 k2]⟩
      have m3 : u3.1 2 = nI (s + 1) := fz.1 2 (by decide)
      have m5 : w5.1 20 = nI (s + 1) := fq.1 20 (by decide)
      have r5 : w5.1 21 = w.1 21 := fq.1 21 (by decide)
      by_cases t0 : t = 0
      · subst t0
        rw [if_pos (show nI 0 ≤ 0 from by decide)] at q1
        obtain ⟨t, u1, w1, b, a1, a2, a3⟩ := ih (s + 1) n (va_up u3.1 1 (nI 0), u3.2) (va_up w5.1 19 (nI 0), va_up w5.2 14 (va_up (w5.2 14) 0 0)) (by omega)
          ⟨(fq.1 2 (by decide)).trans (hS.1.trans (fz.1 0 (by decide)).symm), by rw [show ((va_up u3.1 1 (nI 0), u3.2) : zz_S).1 0 = u.1 0 from fz.1 0 (by decide)]; exact hS.2⟩
          (rr_Gz hG (fz.1 0 (by decide)) fz.2.1)
          (rr_Lq hL (fq.2 6 (by decide) (by decide)) (fq.2 8 (by decide) (by decide)) (fq.2 9 (by decide) (by decide)) (fq.2 10 (by decide) (by decide)))
          hP5 rfl (hpc3 rfl) rfl m3 m5 rfl
        refine ⟨t, u1, w1, b, z1.trans a1, q1.trans a2, fzc u1 a3.1, fqc w1 a3.2.1, a3.2.2.1, a3.2.2.2.1, a3.2.2.2.2.1, a3.2.2.2.2.2.1, a3.2.2.2.2.2.2.1, a3.2.2.2.2.2.2.2.1, a3.2.2.2.2.2.2.2.2.1, a3.2.2.2.2.2.2.2.2.2.1, fun h => (a3.2.2.2.2.2.2.2.2.2.2 h).trans r5⟩
      · have tp : ¬ nI t ≤ 0 := nI_ge (a := 0) (by omega) (by omega)
        have tz : ¬ nI t = 0 := fun z => t0 ((nI_eq (b := 0) (by omega) (by decide)).mp z)
        rw [if_neg tp] at q1
        refine ⟨t, (va_up u3.1 1 (nI t), u3.2), _, false, z1.trans ?_, q1, fzc _ ⟨fun _ _ _ _ => rfl, rfl, rfl, rfl⟩, fqc _ ⟨fun _ _ _ _ _ => rfl, fun _ _ _ => rfl⟩, hP5, rfl, rfl, rfl, m5.trans m3.symm, t6, ⟨fun h => (by cases h), fun h => absurd h.1 t0⟩, fun h => (by cases h), fun _ => r5⟩
        show zf_Machine_run_b56 ((n + d + 1) + 1) _ (nI F) = _
        rw [zf_Machine_run_b56]
        by_cases c3 : ((va_up u3.1 1 (nI t), u3.2) : zz_S).1 3 = -4
        · rw [if_pos c3]; rfl
        · rw [if_neg c3, if_neg (show ¬ ((va_up u3.1 1 (nI t), u3.2) : zz_S).1 1 = 0 from tz)]; rfl
