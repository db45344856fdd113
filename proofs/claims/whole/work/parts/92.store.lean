/-! stores of the machine -/
theorem rr_stl {w : qm_S} {a n : Nat} (v : Int32) (hg : ∀ j, j < n → qf_Model_guarded w (nI (a + j)) = some (0, w)) (hn : n ≤ 4) : ∀ (d j m : Nat), j + d = n → qf_Model_store_b31 (m + d + 1) w (nI a) v (nI n) (nI j) = (qf_Model_put w (nI a) v (nI n)).bind fun u1 => some ((0 : Int32), u1) := by
  intro d
  induction d with
  | zero =>
    intro j m h
    have e : j = n := by omega
    subst e
    rw [qf_Model_store_b31, if_pos (nI_le (Nat.le_refl _) (by omega))]
  | succ d ih =>
    intro j m h
    rw [qf_Model_store_b31, if_neg (nI_ge (by omega) (by omega)), nI_add, hg j (by omega), rr_b2s, if_pos rfl]
    simp only [xx_nm]
    rw [nI_1]
    exact ih (j + 1) m (by omega)
theorem rr_store {u : zz_S} {w : qm_S} {ms : List Nat} {r Z G : Nat → Nat} (hS : rr_S u w) (hG : rr_G u ms r G) (hL : rr_L w ms r Z G) (hP : rr_P u w) (hpc : w.1 30 = u.1 3) (x : Int32) (rd rs rt k : Nat) (hrs : rs < 32) (hrt : rt < 32) (hk : k < 8) (e7 : (xx_ush x (7 : Int32)) &&& (31 : Int32) = nI rd) (e15 : (xx_ush x (15 : Int32)) &&& (31 : Int32) = nI rs) (e20 : (xx_ush x (20 : Int32)) &&& (31 : Int32) = nI rt) (e12 : (xx_ush x (12 : Int32)) &&& (7 : Int32) = nI k) : rr_sd u w (zf_Machine_writeMemory u x) (xx_b2 (qf_Model_store w (nI k) (u.2.1 2 rs + (((x >>> ((25 : Int32) &&& 31)) <<< ((5 : Int32) &&& 31)) ||| nI rd)) (u.2.1 2 rt)) fun v21 u20 => if v21 ≤ 0 then (qf_Model_step_b605 u20 (w.1 30 + 4)) else (some (v21, u20))) := by
  have hM := hP.1
  unfold zf_Machine_writeMemory zf_Machine_kindOf zf_Machine_firstOf zf_Machine_secondOf qf_Model_store
  rw [e12, e7]
  simp only [rr_b2s, xx_nm]
  rw [e15, rr_ag hrs (by decide)]
  simp only [Option.bind_some, rr_b2s]
  generalize u.2.1 2 rs + (((x >>> ((25 : Int32) &&& 31)) <<< ((5 : Int32) &&& 31)) ||| nI rd) = A
  have go : ∀ (n : Nat) (hn : n = 1 ∨ n = 2 ∨ n = 4), rr_sd u w (xx_b2 (zf_Machine_trapOfAccess u A (nI n)) fun v8 u7 => if v8 = 0 then (xx_b2 (zf_Memory_isGuarded u7 A) fun v10 u9 => if v10 = 0 then (xx_b2 ((xx_ag (u9.2.1 2) 32 ((xx_ush x (20 : Int32)) &&& (31 : Int32))).bind fun v1 => some (v1, u9)) fun v12 u11 => (zf_Memory_putPart u11 A (nI n) v12).bind fun u13 => some ((0 : Int32), ((va_up u13.1 3 (u13.1 3 + 4), u13.2) : zz_S))) else (some ((6 : Int32), u9))) else (some (v8, u7))) (xx_b2 (xx_b2 (qf_Model_access w A (nI n)) fun v3 u2 => if v3 ≤ 0 then (qf_Model_store_b31 xx_fu u2 A (u.2.1 2 rt) (nI n) 0) else (some (v3, u2))) fun v21 u20 => if v21 ≤ 0 then (qf_Model_step_b605 u20 (w.1 30 + 4)) else (some (v21, u20))) := by
    intro n hn
    rcases rr_acc u w A n hn with ⟨e1, e2⟩ | ⟨e1, e2⟩ | ⟨a, ha, hA, hns, e1, e2⟩
    · rw [e1, e2]; exact rr_sdT hP 4 (by decide) (by decide)
    · rw [e1, e2]; exact rr_sdT hP 5 (by decide) (by decide)
    · subst hA
      have hb := rr_nsB hns
      have g1 := (hG (a / 4) (by omega)).1
      have hq : ∀ j, j < n → qf_Model_guarded w (nI (a + j)) = some (u.2.1 1 (a / 4), w) := fun j hj => by
        rw [rr_guarded hS hG hL (by omega), show (a + j) / 4 = a / 4 by omega]
      rw [e1, e2, rr_b2s, rr_b2s, if_pos rfl, if_pos (show (0 : Int32) ≤ 0 from by decide), rr_isGuarded u ha g1, rr_b2s]
      rcases g1 with g0 | g0
      · rw [g0] at hq
        have e3 := rr_stl (a := a) (u.2.1 2 rt) hq (by omega) n 0 (4999 - n) (by omega)
        rw [show 4999 - n + n + 1 = xx_fu by unfold xx_fu; omega] at e3
        rw [g0, if_pos rfl, e20, rr_ag hrt (by decide), Option.bind_some, rr_b2s, rr_putPZ u n _ ha, Option.bind_some, show (0 : Int32) = nI 0 from rfl, e3, rr_put w a n _ (by omega) (by omega), Option.bind_some, rr_b2s, if_pos (show (0 : Int32) ≤ nI 0 from by decide)]
        refine ⟨0, _, (va_up w.1 30 (w.1 30 + 4), va_up w.2 1 (rr_putf (w.2 1) a (u.2.1 2 rt) n)), rfl, rfl, by decide, ⟨fun k hk => rr_upN _ _ hk, rfl, rfl, rfl⟩, ⟨fun k hk => rr_upN _ _ hk, fun k hk _ => rr_upN _ _ hk⟩, ⟨rr_MputP hM _ ha hns _ _, hP.2.1, hP.2.2⟩, fun _ => ?_⟩
        show w.1 30 + 4 = u.1 3 + 4
        rw [hpc]
      · have h0 := hq 0 (by omega)
        rw [g0] at h0
        rw [g0, if_neg (by decide)]
        have e3 : qf_Model_store_b31 xx_fu w (nI a) (u.2.1 2 rt) (nI n) 0 = some (6, w) := by
          show qf_Model_store_b31 (4999 + 1) w (nI a) (u.2.1 2 rt) (nI n) (nI 0) = _
          rw [qf_Model_store_b31, if_neg (nI_ge (by omega) (by omega)), nI_add, h0, rr_b2s, if_neg (by decide)]
        rw [e3]
        exact rr_sdT hP 6 (by decide) (by decide)
  match k, hk with
  | 0, _ =>
    rw [show (1 : Int32) <<< (nI 0 &&& 31) = nI 1 from by decide, if_pos (show nI 0 ≤ 2 from by decide), if_pos (show nI 0 ≤ 2 from by decide)]
    exact go 1 (Or.inl rfl)
  | 1, _ =>
    rw [show (1 : Int32) <<< (nI 1 &&& 31) = nI 2 from by decide, if_pos (show nI 1 ≤ 2 from by decide), if_pos (show nI 1 ≤ 2 from by decide)]
    exact go 2 (Or.inr (Or.inl rfl))
  | 2, _ =>
    rw [show (1 : Int32) <<< (nI 2 &&& 31) = nI 4 from by decide, if_pos (show nI 2 ≤ 2 from by decide), if_pos (show nI 2 ≤ 2 from by decide)]
    exact go 4 (Or.inr (Or.inr rfl))
  | 3, _ => exact rr_sdT hP 3 (by decide) (by decide)
  | 4, _ => exact rr_sdT hP 3 (by decide) (by decide)
  | 5, _ => exact rr_sdT hP 3 (by decide) (by decide)
  | 6, _ => exact rr_sdT hP 3 (by decide) (by decide)
  | 7, _ => exact rr_sdT hP 3 (by decide) (by decide)
  | n + 8, h => exact absurd h (by omega)
