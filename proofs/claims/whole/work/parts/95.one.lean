/-! one whole step of the machine on both sides -/
theorem rr_step {u : zz_S} {w : qm_S} {ms : List Nat} {r Z G : Nat → Nat} (hS : rr_S u w) (hG : rr_G u ms r G) (hL : rr_L w ms r Z G) (hP : rr_P u w) (h0 : w.2 14 0 = 0) (hpc : w.1 30 = u.1 3) : rr_sd u w (zf_Machine_step u) (qf_Model_step w) := by
  have hreg : ∀ k, k < 32 → w.2 14 k = u.2.1 2 k := fun k hk => by
    by_cases e : k = 0
    · rw [e, h0, hP.2.2]
    · exact hP.2.1 k (by omega) hk
  unfold zf_Machine_step qf_Model_step
  rw [hpc]
  have e4 := rr_mod4x (u.1 3)
  by_cases c : (u.1 3 &&& 3) = 0
  · rw [if_pos c, if_pos (e4.mpr c), rr_holds, rr_b2s]
    cases hb : rr_hoB (u.1 3)
    · rw [if_pos rr_bif]
      have q : (if u.1 3 < 0 then qf_Model_step_b28 w else if u.1 3 < 4096 then (none : Option (Int32 × qm_S)) else qf_Model_step_b28 w) = some (2, w) := by
        by_cases c1 : u.1 3 < 0
        · rw [if_pos c1]; rfl
        · have c2 : ¬ u.1 3 < 4096 := fun z => by
            have c3 : ¬ (4096 : Int32) ≤ u.1 3 := Int32.not_le.mpr z
            simp [rr_hoB, c1, c3] at hb
          rw [if_neg c1, if_neg c2]; rfl
      by_cases c1 : u.1 3 < 0
      · rw [if_pos c1]; exact rr_sdT hP 2 (by decide) (by decide)
      · have c2 : ¬ u.1 3 < 4096 := fun z => by
          have c3 : ¬ (4096 : Int32) ≤ u.1 3 := Int32.not_le.mpr z
          simp [rr_hoB, c1, c3] at hb
        rw [if_neg c1, if_neg c2]; exact rr_sdT hP 2 (by decide) (by decide)
    · obtain ⟨a, ha, ea⟩ := rr_ho hb
      have ha4 : a % 4 = 0 := by
        rw [ea, show (3 : Int32) = nI 3 from rfl, rr_and3 (by omega), ← nI_0, nI_eq (by omega) (by decide)] at c
        exact c
      have c1 : ¬ u.1 3 < 0 := by rw [ea]; exact nI_pos (by omega)
      have c2 : u.1 3 < 4096 := by rw [ea]; exact nI_lt (b := 4096) ha (by decide)
      have w1 : zf_Memory_wordAt u (u.1 3) = some (u.2.1 0 (a / 4), u) := by rw [ea]; exact rr_wordZ u ha
      have w2 : qf_Model_wordAt w (u.1 3) = some (u.2.1 0 (a / 4), w) := by rw [ea]; exact rr_wordQ hP.1 ha ha4
      rw [if_neg (show ¬ rr_bi true = 0 from by decide), if_neg c1, if_pos c2, w1, w2, rr_b2s, rr_b2s]
      generalize u.2.1 0 (a / 4) = x
      obtain ⟨rd, hrd, e7⟩ := pk_andE (xx_ush x 7) (m := 31) 5 (by decide)
      obtain ⟨rs, hrs, e15⟩ := pk_andE (xx_ush x 15) (m := 31) 5 (by decide)
      obtain ⟨rt, hrt, e20⟩ := pk_andE (xx_ush x 20) (m := 31) 5 (by decide)
      obtain ⟨k, hk, e12⟩ := pk_andE (xx_ush x 12) (m := 7) 3 (by decide)
      simp only [qf_Model_bits, rr_b2s, rr_mk5, rr_mk3, rr_mk8, rr_mk1, rr_mk10, rr_f7, rr_f15, rr_f20, rr_f12, xx_nm]
      rw [e7, e15, e20, e12, rr_ag hrs (by decide), Option.bind_some, rr_ag hrt (by decide), Option.bind_some, hreg rs hrs, hreg rt hrt]
      simp only [rr_b2id]
      by_cases o3 : (x &&& 127) = 3
      · rw [if_pos o3, if_pos o3]
        exact rr_load hP hpc x rd rs k hrd hrs hk e7 e15 e12
      rw [if_neg o3, if_neg o3]
      by_cases o19 : (x &&& 127) = 19
      · rw [if_pos o19, if_pos o19]
        exact rr_imm hP hpc x rd rs k hrd hrs hk e7 e15 e12
      rw [if_neg o19, if_neg o19]
      by_cases o23 : (x &&& 127) = 23
      · rw [if_pos o23, if_pos o23, hpc]
        exact rr_sdR hP x _ _ rd hrd e7
      rw [if_neg o23, if_neg o23]
      by_cases o35 : (x &&& 127) = 35
      · rw [if_pos o35, if_pos o35]
        exact rr_store hS hG hL hP hpc x rd rs rt k hrs hrt hk e7 e15 e20 e12
      rw [if_neg o35, if_neg o35]
      by_cases o51 : (x &&& 127) = 51
      · rw [if_pos o51, if_pos o51]
        exact rr_reg hP hpc x rd rs rt k hrd hrs hrt hk e7 e15 e20 e12
      rw [if_neg o51, if_neg o51]
      by_cases o55 : (x &&& 127) = 55
      · rw [if_pos o55, if_pos o55, hpc]
        exact rr_sdR hP x _ _ rd hrd e7
      rw [if_neg o55, if_neg o55]
      by_cases o99 : (x &&& 127) = 99
      · rw [if_pos o99, if_pos o99]
        have h := rr_br hP hpc x rs rt k hrs hrt hk e15 e20 e12
        simp only [qf_Model_bits, rr_b2s, rr_mk1, rr_mk6, rr_mk4, xx_nm] at h
        simp only [rr_mk6, rr_mk4]
        exact h
      rw [if_neg o99, if_neg o99]
      by_cases o103 : (x &&& 127) = 103
      · rw [if_pos o103, if_pos o103]
        unfold zf_Machine_jumpToRegister zf_Machine_kindOf zf_Machine_firstOf
        rw [e12, rr_b2s]
        by_cases k0 : nI k = 0
        · rw [if_pos k0, if_pos k0, e15, rr_ag hrs (by decide), Option.bind_some, rr_b2s, rr_b2id, hpc]
          exact rr_sdR hP x _ _ rd hrd e7
        · rw [if_neg k0, if_neg k0]
          exact rr_sdT hP 3 (by decide) (by decide)
      rw [if_neg o103, if_neg o103]
      by_cases o111 : (x &&& 127) = 111
      · rw [if_pos o111, if_pos o111]
        unfold zf_Machine_jumpDistance
        rw [rr_b2s, ← rr_jd, hpc]
        exact rr_sdR hP x _ _ rd hrd e7
      rw [if_neg o111, if_neg o111]
      exact rr_sdT hP 3 (by decide) (by decide)
  · rw [if_neg c, if_neg (fun h => c (e4.mp h))]
    exact rr_sdT hP 1 (by decide) (by decide)
