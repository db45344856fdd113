/-! branches; one whole step -/
theorem rr_cmpB (u : zz_S) (w : qm_S) (k : Nat) (x y : Int32) (hk : k < 8) (h2 : k ≠ 2) (h3 : k ≠ 3) : ∃ b : Bool, zf_Machine_compares u (nI k) x y = some (rr_bi b, u) ∧ qf_Model_isSo w (nI k) x y = some (rr_bi (b == decide (k % 2 = 0)), w) := by
  have fin : ∀ b : Bool, qf_Model_isSo_b42 w (nI k) (rr_bi b) = some (rr_bi (b == decide (k % 2 = 0)), w) := fun b => by
    unfold qf_Model_isSo_b42 qf_Model_isSo_b54 qf_Model_isSo_b63
    match k, hk with
    | 0, _ => cases b <;> rfl
    | 1, _ => cases b <;> rfl
    | 2, _ => cases b <;> rfl
    | 3, _ => cases b <;> rfl
    | 4, _ => cases b <;> rfl
    | 5, _ => cases b <;> rfl
    | 6, _ => cases b <;> rfl
    | 7, _ => cases b <;> rfl
    | n + 8, h => exact absurd h (by omega)
  have eqc : k < 2 → ∃ b : Bool, zf_Machine_compares u (nI k) x y = some (rr_bi b, u) ∧ qf_Model_isSo w (nI k) x y = some (rr_bi (b == decide (k % 2 = 0)), w) := fun h => by
    unfold zf_Machine_compares qf_Model_isSo
    simp only [xx_nm]
    rw [show nI k >>> ((1 : Int32) &&& 31) = nI (k / 2) from pk_shrN (by omega) _ 1 (by decide), if_pos (show nI (k / 2) = 0 from by rw [show k / 2 = 0 by omega]; rfl), if_neg (show ¬ (2 : Int32) ≤ nI k from nI_ge (b := 2) (by omega) (by decide))]
    by_cases c : x = y
    · rw [if_pos c, if_pos c]
      exact ⟨true, by rw [zf_Machine_compares_b38, rr_nb1]; rfl, fin true⟩
    · rw [if_neg c, if_neg c]
      exact ⟨false, by rw [zf_Machine_compares_b38, rr_nb0]; rfl, fin false⟩
  have ltc : 4 ≤ k → k < 6 → ∃ b : Bool, zf_Machine_compares u (nI k) x y = some (rr_bi b, u) ∧ qf_Model_isSo w (nI k) x y = some (rr_bi (b == decide (k % 2 = 0)), w) := fun h h' => by
    unfold zf_Machine_compares qf_Model_isSo
    simp only [xx_nm]
    rw [show nI k >>> ((1 : Int32) &&& 31) = nI (k / 2) from pk_shrN (by omega) _ 1 (by decide), show k / 2 = 2 by omega, if_neg (show ¬ nI 2 = 0 from by decide), if_pos (show nI 2 = 2 from rfl), if_pos (show (2 : Int32) ≤ nI k from nI_le (a := 2) (by omega) (by omega)), if_neg (show ¬ (6 : Int32) ≤ nI k from nI_ge (b := 6) (by omega) (by decide))]
    by_cases c : y ≤ x
    · rw [if_pos c, if_pos c]
      exact ⟨false, by rw [zf_Machine_compares_b49, rr_nb0]; rfl, fin false⟩
    · rw [if_neg c, if_neg c]
      exact ⟨true, by rw [zf_Machine_compares_b49, rr_nb1]; rfl, fin true⟩
  have bec : 6 ≤ k → ∃ b : Bool, zf_Machine_compares u (nI k) x y = some (rr_bi b, u) ∧ qf_Model_isSo w (nI k) x y = some (rr_bi (b == decide (k % 2 = 0)), w) := fun h => by
    obtain ⟨b, e1, e2⟩ := rr_below u w x y
    unfold zf_Machine_compares qf_Model_isSo
    simp only [xx_nm]
    rw [show nI k >>> ((1 : Int32) &&& 31) = nI (k / 2) from pk_shrN (by omega) _ 1 (by decide), show k / 2 = 3 by omega, if_neg (show ¬ nI 3 = 0 from by decide), if_neg (show ¬ nI 3 = 2 from by decide), if_pos (show (2 : Int32) ≤ nI k from nI_le (a := 2) (by omega) (by omega)), if_pos (show (6 : Int32) ≤ nI k from nI_le (a := 6) (by omega) (by omega)), e1, e2, rr_b2s, rr_b2s]
    refine ⟨b, ?_, fin b⟩
    cases b
    · rw [rr_bif, rr_nb0]
    · rw [rr_bit, rr_nb1]
  rcases Nat.lt_or_ge k 2 with h | h
  · exact eqc h
  · rcases Nat.lt_or_ge k 6 with h' | h'
    · exact ltc (by omega) h'
    · exact bec h'
theorem rr_br {u : zz_S} {w : qm_S} (hP : rr_P u w) (hpc : w.1 30 = u.1 3) (x : Int32) (rs rt k : Nat) (hrs : rs < 32) (hrt : rt < 32) (hk : k < 8) (e15 : (xx_ush x (15 : Int32)) &&& (31 : Int32) = nI rs) (e20 : (xx_ush x (20 : Int32)) &&& (31 : Int32) = nI rt) (e12 : (xx_ush x (12 : Int32)) &&& (7 : Int32) = nI k) : rr_sd u w (zf_Machine_branch u x) (if nI k = (2 : Int32) then (qf_Model_step_b315 w) else (if nI k = (3 : Int32) then (qf_Model_step_b315 w) else (xx_b2 (qf_Model_isSo w (nI k) (u.2.1 2 rs) (u.2.1 2 rt)) fun v25 u24 => if v25 = 0 then (qf_Model_step_b605 u24 (w.1 30 + 4)) else (xx_b2 (qf_Model_bits u24 x (7 : Int32) (1 : Int32)) fun v27 u26 => xx_b2 (qf_Model_bits u26 x (25 : Int32) (6 : Int32)) fun v29 u28 => xx_b2 (qf_Model_bits u28 x (8 : Int32) (4 : Int32)) fun v31 u30 => xx_nm ((u24.1 30) + (((((x >>> ((31 : Int32) &&& 31)) <<< ((12 : Int32) &&& 31)) ||| (v27 <<< ((11 : Int32) &&& 31))) ||| (v29 <<< ((5 : Int32) &&& 31))) ||| (v31 <<< ((1 : Int32) &&& 31)))) fun v32 => qf_Model_step_b605 u30 v32)))) := by
  unfold zf_Machine_branch zf_Machine_kindOf
  rw [e12, rr_b2s]
  by_cases k2 : nI k = 2
  · rw [if_pos k2, if_pos k2]; exact rr_sdT hP 3 (by decide) (by decide)
  by_cases k3 : nI k = 3
  · rw [if_neg k2, if_pos k3, if_neg k2, if_pos k3]; exact rr_sdT hP 3 (by decide) (by decide)
  rw [if_neg k2, if_neg k3, if_neg k2, if_neg k3]
  obtain ⟨b, e1, e2⟩ := rr_cmpB u w k (u.2.1 2 rs) (u.2.1 2 rt) hk (fun h => k2 (by rw [h]; rfl)) (fun h => k3 (by rw [h]; rfl))
  unfold zf_Machine_firstOf zf_Machine_secondOf
  rw [e15, rr_ag hrs (by decide), Option.bind_some, rr_b2s, e20, rr_ag hrt (by decide), Option.bind_some, rr_b2s, e1, rr_b2s, e2, rr_b2s]
  have ek : (nI k &&& (1 : Int32)) = 0 ↔ k % 2 = 0 := by
    rw [pk_andN (by omega) 1 (by decide), ← nI_0, nI_eq (Nat.lt_of_lt_of_le (Nat.mod_lt _ (by decide)) (by decide)) (by decide)]
  have take : ∀ y0 : Int32, zf_Machine_branch_b43 u x (rr_bi b) y0 = if rr_bi b = y0 then some ((0 : Int32), ((va_up u.1 3 (u.1 3 + (((((x >>> ((31 : Int32) &&& 31)) <<< ((12 : Int32) &&& 31)) ||| (((xx_ush x (7 : Int32)) &&& (1 : Int32)) <<< ((11 : Int32) &&& 31))) ||| (((xx_ush x (25 : Int32)) &&& (63 : Int32)) <<< ((5 : Int32) &&& 31))) ||| (((xx_ush x (8 : Int32)) &&& (15 : Int32)) <<< ((1 : Int32) &&& 31)))), u.2) : zz_S)) else some ((0 : Int32), ((va_up u.1 3 (u.1 3 + 4), u.2) : zz_S)) := fun y0 => rfl
  rw [take, take]
  have yes := rr_sdJ hP (w.1 30 + (((((x >>> ((31 : Int32) &&& 31)) <<< ((12 : Int32) &&& 31)) ||| (((x >>> ((7 : Int32) &&& 31)) &&& 1) <<< ((11 : Int32) &&& 31))) ||| (((x >>> ((25 : Int32) &&& 31)) &&& 63) <<< ((5 : Int32) &&& 31))) ||| (((x >>> ((8 : Int32) &&& 31)) &&& 15) <<< ((1 : Int32) &&& 31))))
  have no := rr_sdJ hP (w.1 30 + 4)
  simp only [qf_Model_bits, rr_b2s, rr_mk1, rr_mk6, rr_mk4, xx_nm]
  rw [← rr_bd, ← hpc]
  by_cases c : k % 2 = 0
  · rw [if_pos (ek.mpr c), decide_eq_true c]
    cases b
    · rw [if_neg (by decide), if_pos (by decide)]; exact no
    · rw [if_pos (by decide), if_neg (by decide)]; exact yes
  · rw [if_neg (fun h => c (ek.mp h)), decide_eq_false c]
    cases b
    · rw [if_pos (by decide), if_neg (by decide)]; exact yes
    · rw [if_neg (by decide), if_pos (by decide)]; exact no
