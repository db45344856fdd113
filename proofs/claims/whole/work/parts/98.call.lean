/-! what a run leaves in the report; call -/
theorem rr_Mz {u u1 : zz_S} {w w1 : qm_S} (h : rr_M u1 w1) (x y : Nat → Int32) : rr_M (x, u1.2) (y, w1.2) := h
/-- the end of a run: number is the fault, 0 for none -/
theorem rr_exec {u : zz_S} {w : qm_S} {ms : List Nat} {r Z G : Nat → Nat} (hS : rr_S u w) (hG : rr_G u ms r G) (hL : rr_L w ms r Z G) (hM : rr_M u w) (p a b : Int32) {F : Nat} (hF : F ≤ 2000) (hm : w.1 20 = 0) (ht : w.1 19 = 0) (h17 : u.1 17 = 0) (h21 : w.1 21 = u.1 21) : ∃ (t : Nat) (u1 u2 : zz_S) (w1 : qm_S) (b1 : Bool), zf_Loader_execute u p a b (nI F) = some u2 ∧ qf_Model_runs w p a b (nI F) = some (rr_bi b1, w1) ∧ rr_ran u u1 w w1 b1 t ∧ u2.2 = u1.2 ∧ (∀ k, k ≠ 17 → k ≠ 18 → k ≠ 19 → k ≠ 20 → k ≠ 21 → u2.1 k = u1.1 k) ∧ u2.1 19 = nI t ∧ u2.1 20 = w1.1 20 ∧ u2.1 21 = w1.1 21 ∧ (b1 = true → u2.1 17 = 0 ∧ u2.1 18 = u.1 18) ∧ (b1 = false → u2.1 17 = (if t = 0 then 9 else 8) ∧ u2.1 18 = -1) := by
  obtain ⟨t, u1, w1, b1, e1, e2, hr⟩ := rr_run hS hG hL hM p a b hF hm ht
  have hr0 := hr
  obtain ⟨fz, fq, hP, h0, t1, t2, m1, t6, hb, hbt, hbf⟩ := hr
  have z17 : u1.1 17 = 0 := (fz.1 17 (by decide) (by decide) (by decide)).trans h17
  have z18 : u1.1 18 = u.1 18 := fz.1 18 (by decide) (by decide) (by decide)
  have z21 : u1.1 21 = u.1 21 := fz.1 21 (by decide) (by decide) (by decide)
  unfold zf_Loader_execute
  rw [e1, Option.bind_some]
  simp only [xx_nm]
  by_cases t0 : t = 0
  · subst t0
    rw [if_pos (show va_up (va_up u1.1 19 (u1.1 1)) 20 (va_up u1.1 19 (u1.1 1) 2) 1 = 0 from t1)]
    by_cases c : u1.1 3 = -4
    · have hb1 : b1 = true := hb.mpr ⟨rfl, c⟩
      subst hb1
      have hh : zf_Machine_hasReturned (va_up (va_up u1.1 19 (u1.1 1)) 20 (va_up u1.1 19 (u1.1 1) 2), u1.2) = some (1, (va_up (va_up u1.1 19 (u1.1 1)) 20 (va_up u1.1 19 (u1.1 1) 2), u1.2)) := by
        unfold zf_Machine_hasReturned
        rw [if_pos (show ((va_up (va_up u1.1 19 (u1.1 1)) 20 (va_up u1.1 19 (u1.1 1) 2), u1.2) : zz_S).1 1 = 0 from t1), if_pos (show ((va_up (va_up u1.1 19 (u1.1 1)) 20 (va_up u1.1 19 (u1.1 1) 2), u1.2) : zz_S).1 3 = -4 from c), zf_Machine_hasReturned_b21, rr_nb1]
      rw [hh, rr_b2s, if_neg (by decide)]
      refine ⟨0, u1, (va_up (va_up (va_up u1.1 19 (u1.1 1)) 20 (va_up u1.1 19 (u1.1 1) 2)) 21 (u1.2.1 2 10), u1.2), w1, true, rfl, e2, hr0, rfl, fun k k1 k2 k3 k4 k5 => ?_, t1, m1.symm, (hbt rfl).symm, fun _ => ⟨z17, z18⟩, fun h => (by cases h)⟩
      show va_up (va_up (va_up u1.1 19 (u1.1 1)) 20 _) 21 _ k = u1.1 k
      rw [rr_upN _ _ k5, rr_upN _ _ k4, rr_upN _ _ k3]
    · have hb1 : b1 = false := by
        cases b1
        · rfl
        · exact absurd (hb.mp rfl).2 c
      subst hb1
      have hh : zf_Machine_hasReturned (va_up (va_up u1.1 19 (u1.1 1)) 20 (va_up u1.1 19 (u1.1 1) 2), u1.2) = some (0, (va_up (va_up u1.1 19 (u1.1 1)) 20 (va_up u1.1 19 (u1.1 1) 2), u1.2)) := by
        unfold zf_Machine_hasReturned
        rw [if_pos (show ((va_up (va_up u1.1 19 (u1.1 1)) 20 (va_up u1.1 19 (u1.1 1) 2), u1.2) : zz_S).1 1 = 0 from t1), if_neg (show ¬ ((va_up (va_up u1.1 19 (u1.1 1)) 20 (va_up u1.1 19 (u1.1 1) 2), u1.2) : zz_S).1 3 = -4 from c), zf_Machine_hasReturned_b20, zf_Machine_hasReturned_b21, rr_nb0]
      rw [hh, rr_b2s, if_pos rfl]
      refine ⟨0, u1, (va_up (va_up (va_up (va_up u1.1 19 (u1.1 1)) 20 (va_up u1.1 19 (u1.1 1) 2)) 17 9) 18 (-1), u1.2), w1, false, rfl, e2, hr0, rfl, fun k k1 k2 k3 k4 k5 => ?_, t1, m1.symm, z21.trans (h21.symm.trans (hbf rfl).symm), fun h => (by cases h), fun _ => ⟨rfl, rfl⟩⟩
      show va_up (va_up (va_up (va_up u1.1 19 (u1.1 1)) 20 _) 17 _) 18 _ k = u1.1 k
      rw [rr_upN _ _ k2, rr_upN _ _ k1, rr_upN _ _ k4, rr_upN _ _ k3]
  · have hb1 : b1 = false := by
      cases b1
      · rfl
      · exact absurd (hb.mp rfl).1 t0
    subst hb1
    rw [if_neg (show ¬ va_up (va_up u1.1 19 (u1.1 1)) 20 (va_up u1.1 19 (u1.1 1) 2) 1 = 0 from fun z => t0 ((nI_eq (b := 0) (by omega) (by decide)).mp (t1.symm.trans z)))]
    refine ⟨t, u1, (va_up (va_up (va_up (va_up u1.1 19 (u1.1 1)) 20 (va_up u1.1 19 (u1.1 1) 2)) 17 8) 18 (-1), u1.2), w1, false, rfl, e2, hr0, rfl, fun k k1 k2 k3 k4 k5 => ?_, t1, m1.symm, z21.trans (h21.symm.trans (hbf rfl).symm), fun h => (by cases h), fun _ => ⟨by rw [if_neg t0]; rfl, rfl⟩⟩
    show va_up (va_up (va_up (va_up u1.1 19 (u1.1 1)) 20 _) 17 _) 18 _ k = u1.1 k
    rw [rr_upN _ _ k2, rr_upN _ _ k1, rr_upN _ _ k4, rr_upN _ _ k3]
