/-! computing and branching of the machine -/
theorem rr_cmpI {u : zz_S} {w : qm_S} (hP : rr_P u w) (hpc : w.1 30 = u.1 3) (x : Int32) (rd rs k : Nat) (b : Bool) (z : Int32) (hrd : rd < 32) (hrs : rs < 32) (hk : k < 8) (e7 : (xx_ush x (7 : Int32)) &&& (31 : Int32) = nI rd) (e15 : (xx_ush x (15 : Int32)) &&& (31 : Int32) = nI rs) (h1 : k = 1 ∨ k = 5 → z &&& 31 = (x >>> ((20 : Int32) &&& 31)) &&& 31) (h2 : k ≠ 1 → k ≠ 5 → z = x >>> ((20 : Int32) &&& 31)) (hb : ¬ (k = 0 ∧ b = true)) : rr_sd u w (zf_Machine_computeWithImmediate_b67 u x x (nI k) (rr_bi b)) (qf_Model_step_b515 w (w.1 30 + 4) (nI rd) (nI k) (u.2.1 2 rs) z (rr_bi b)) := by
  obtain ⟨v, e1, e2⟩ := rr_comp u w k b (u.2.1 2 rs) (x >>> ((20 : Int32) &&& 31)) z h1 h2 hk hb
  unfold zf_Machine_computeWithImmediate_b67 zf_Machine_firstOf qf_Model_step_b515
  rw [e15, rr_ag hrs (by decide), Option.bind_some, rr_b2s, e1, e2, rr_b2s, rr_b2s, rr_b2id, ← hpc]
  exact rr_sdR hP x v (w.1 30 + 4) rd hrd e7
theorem rr_cmpR {u : zz_S} {w : qm_S} (hP : rr_P u w) (hpc : w.1 30 = u.1 3) (x : Int32) (rd rs rt k : Nat) (b : Bool) (hrd : rd < 32) (hrs : rs < 32) (hrt : rt < 32) (hk : k < 8) (e7 : (xx_ush x (7 : Int32)) &&& (31 : Int32) = nI rd) (e15 : (xx_ush x (15 : Int32)) &&& (31 : Int32) = nI rs) (e20 : (xx_ush x (20 : Int32)) &&& (31 : Int32) = nI rt) (hb : ¬ (k = 0 ∧ b = true)) : rr_sd u w (zf_Machine_computeWithRegister_b43 u x x (nI k) (rr_bi b)) (qf_Model_step_b596 w (w.1 30 + 4) (nI rd) (nI k) (u.2.1 2 rs) (u.2.1 2 rt) (rr_bi b)) := by
  obtain ⟨v, e1, e2⟩ := rr_comp u w k b (u.2.1 2 rs) (u.2.1 2 rt) (u.2.1 2 rt) (fun _ => rfl) (fun _ _ => rfl) hk hb
  unfold zf_Machine_computeWithRegister_b43 zf_Machine_firstOf zf_Machine_secondOf qf_Model_step_b596 qf_Model_step_b599
  rw [e15, e20, rr_ag hrs (by decide), Option.bind_some, rr_b2s, rr_ag hrt (by decide), Option.bind_some, rr_b2s, e1, e2, rr_b2s, rr_b2s, rr_b2id, ← hpc]
  exact rr_sdR hP x v (w.1 30 + 4) rd hrd e7
theorem rr_cmpS {u : zz_S} {w : qm_S} (hP : rr_P u w) (hpc : w.1 30 = u.1 3) (x : Int32) (rd rs rt : Nat) (hrd : rd < 32) (hrs : rs < 32) (hrt : rt < 32) (e7 : (xx_ush x (7 : Int32)) &&& (31 : Int32) = nI rd) (e15 : (xx_ush x (15 : Int32)) &&& (31 : Int32) = nI rs) (e20 : (xx_ush x (20 : Int32)) &&& (31 : Int32) = nI rt) : rr_sd u w (zf_Machine_computeWithRegister_b43 u x x (nI 0) (1 : Int32)) (qf_Model_step_b599 w (w.1 30 + 4) (nI rd) (u.2.1 2 rs - u.2.1 2 rt)) := by
  unfold zf_Machine_computeWithRegister_b43 zf_Machine_firstOf zf_Machine_secondOf qf_Model_step_b599
  rw [e15, e20, rr_ag hrs (by decide), Option.bind_some, rr_b2s, rr_ag hrt (by decide), Option.bind_some, rr_b2s, show zf_Machine_computed u (nI 0) 1 (u.2.1 2 rs) (u.2.1 2 rt) = some (u.2.1 2 rs - u.2.1 2 rt, u) from rfl, rr_b2s, rr_b2id, ← hpc]
  exact rr_sdR hP x (u.2.1 2 rs - u.2.1 2 rt) (w.1 30 + 4) rd hrd e7
theorem rr_imm {u : zz_S} {w : qm_S} (hP : rr_P u w) (hpc : w.1 30 = u.1 3) (x : Int32) (rd rs k : Nat) (hrd : rd < 32) (hrs : rs < 32) (hk : k < 8) (e7 : (xx_ush x (7 : Int32)) &&& (31 : Int32) = nI rd) (e15 : (xx_ush x (15 : Int32)) &&& (31 : Int32) = nI rs) (e12 : (xx_ush x (12 : Int32)) &&& (7 : Int32) = nI k) : rr_sd u w (zf_Machine_computeWithImmediate u x) (if nI k = (1 : Int32) then (if (xx_ush x (25 : Int32)) = 0 then (qf_Model_step_b439 w x (nI rd) (u.2.1 2 rs) (nI k) (x >>> ((20 : Int32) &&& 31)) (w.1 30 + 4)) else (qf_Model_step_b461 w)) else (qf_Model_step_b439 w x (nI rd) (u.2.1 2 rs) (nI k) (x >>> ((20 : Int32) &&& 31)) (w.1 30 + 4))) := by
  have c := fun (b : Bool) (z : Int32) h1 h2 hb => rr_cmpI hP hpc x rd rs k b z hrd hrs hk e7 e15 h1 h2 hb
  have e31 : ((x >>> ((20 : Int32) &&& 31)) &&& 31) &&& 31 = (x >>> ((20 : Int32) &&& 31)) &&& 31 := by rw [Int32.and_assoc, show (31 : Int32) &&& 31 = 31 from by decide]
  unfold zf_Machine_computeWithImmediate zf_Machine_kindOf
  rw [e12, rr_b2s]
  simp only [zf_Machine_computeWithImmediate_b15, zf_Machine_computeWithImmediate_b20, zf_Machine_computeWithImmediate_b33, zf_Machine_computeWithImmediate_b54, zf_Machine_computeWithImmediate_b52, qf_Model_step_b439, qf_Model_step_b463, qf_Model_step_b483, qf_Model_step_b495, qf_Model_step_b514, qf_Model_step_b461, qf_Model_bits, rr_b2s, rr_mk5]
  by_cases k1 : k = 1
  · subst k1
    simp only [show nI 1 = 1 from rfl, show ¬ (1 : Int32) = 5 from by decide, show ¬ (1 : Int32) = 0 from by decide, if_true, if_false]
    by_cases f0 : xx_ush x 25 = 0
    · simp only [f0, if_true]
      exact c false _ (fun _ => e31) (fun h => absurd rfl h) (by decide)
    · simp only [f0, if_false, ite_self]
      exact rr_sdT hP 3 (by decide) (by decide)
  by_cases k5 : k = 5
  · subst k5
    simp only [show nI 5 = 5 from rfl, show ¬ (5 : Int32) = 1 from by decide, show ¬ (1 : Int32) = 0 from by decide, if_true, if_false]
    by_cases f0 : xx_ush x 25 = 0
    · simp only [f0, if_true, show ¬ (0 : Int32) = 32 from by decide, if_false]
      exact c false _ (fun _ => e31) (fun _ h => absurd rfl h) (by decide)
    · by_cases f2 : xx_ush x 25 = 32
      · simp only [f2, if_true, show ¬ (32 : Int32) = 0 from by decide, if_false]
        exact c true _ (fun _ => e31) (fun _ h => absurd rfl h) (by decide)
      · simp only [f0, f2, if_false]
        exact rr_sdT hP 3 (by decide) (by decide)
  · have n1 : ¬ nI k = 1 := fun h => k1 ((nI_eq (b := 1) (by omega) (by decide)).mp h)
    have n5 : ¬ nI k = 5 := fun h => k5 ((nI_eq (b := 5) (by omega) (by decide)).mp h)
    simp only [n1, n5, if_true, if_false]
    exact c false _ (fun h => by omega) (fun _ _ => rfl) (by simp)
theorem rr_reg {u : zz_S} {w : qm_S} (hP : rr_P u w) (hpc : w.1 30 = u.1 3) (x : Int32) (rd rs rt k : Nat) (hrd : rd < 32) (hrs : rs < 32) (hrt : rt < 32) (hk : k < 8) (e7 : (xx_ush x (7 : Int32)) &&& (31 : Int32) = nI rd) (e15 : (xx_ush x (15 : Int32)) &&& (31 : Int32) = nI rs) (e20 : (xx_ush x (20 : Int32)) &&& (31 : Int32) = nI rt) (e12 : (xx_ush x (12 : Int32)) &&& (7 : Int32) = nI k) : rr_sd u w (zf_Machine_computeWithRegister u x) (if (xx_ush x (25 : Int32)) = 0 then (qf_Model_step_b551 w x (nI rd) (u.2.1 2 rs) (u.2.1 2 rt) (nI k) (w.1 30 + 4)) else (if (xx_ush x (25 : Int32)) = (32 : Int32) then (if nI k = 0 then (qf_Model_step_b551 w x (nI rd) (u.2.1 2 rs) (u.2.1 2 rt) (nI k) (w.1 30 + 4)) else (if nI k = (5 : Int32) then (qf_Model_step_b551 w x (nI rd) (u.2.1 2 rs) (u.2.1 2 rt) (nI k) (w.1 30 + 4)) else (qf_Model_step_b549 w))) else (qf_Model_step_b549 w))) := by
  have c := fun (b : Bool) hb => rr_cmpR hP hpc x rd rs rt k b hrd hrs hrt hk e7 e15 e20 hb
  unfold zf_Machine_computeWithRegister zf_Machine_kindOf
  rw [e12, rr_b2s]
  simp only [xx_nm, zf_Machine_computeWithRegister_b31, zf_Machine_computeWithRegister_b29, qf_Model_step_b551, qf_Model_step_b577, qf_Model_step_b549]
  by_cases f0 : xx_ush x 25 = 0
  · simp only [f0, if_true, show ¬ (0 : Int32) = 32 from by decide, if_false, ite_self]
    exact c false (by simp)
  · by_cases f2 : xx_ush x 25 = 32
    · simp only [f2, if_true, show ¬ (32 : Int32) = 0 from by decide, if_false]
      by_cases k0 : k = 0
      · subst k0
        simp only [show nI 0 = 0 from rfl, if_true]
        exact rr_cmpS hP hpc x rd rs rt hrd hrs hrt e7 e15 e20
      · have n0 : ¬ nI k = 0 := fun h => k0 ((nI_eq (b := 0) (by omega) (by decide)).mp h)
        by_cases k5 : nI k = 5
        · simp only [n0, if_false]
          rw [if_pos k5, if_pos k5]
          exact c true (fun h => k0 h.1)
        · simp only [n0, k5, if_false]
          exact rr_sdT hP 3 (by decide) (by decide)
    · simp only [f0, f2, if_false]
      exact rr_sdT hP 3 (by decide) (by decide)
