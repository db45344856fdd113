/-! access to memory by the machine -/
theorem rr_b2s {α β γ : Type} (a : α) (b : β) (f : α → β → Option γ) : xx_b2 (some (a, b)) f = f a b := rfl
theorem rr_acc (u : zz_S) (w : qm_S) (x : Int32) (n : Nat) (hn : n = 1 ∨ n = 2 ∨ n = 4) : (zf_Machine_trapOfAccess u x (nI n) = some (4, u) ∧ qf_Model_access w x (nI n) = some (4, w)) ∨ (zf_Machine_trapOfAccess u x (nI n) = some (5, u) ∧ qf_Model_access w x (nI n) = some (5, w)) ∨ ∃ a, a < 4096 ∧ x = nI a ∧ rr_ns n (a % 4) ∧ zf_Machine_trapOfAccess u x (nI n) = some (0, u) ∧ qf_Model_access w x (nI n) = some (0, w) := by
  have hd : nI n = 1 ∨ nI n = 2 ∨ nI n = 4 := by
    rcases hn with rfl | rfl | rfl
    · exact Or.inl rfl
    · exact Or.inr (Or.inl rfl)
    · exact Or.inr (Or.inr rfl)
  have hz : ¬ nI n = 0 := by rcases hn with rfl | rfl | rfl <;> decide
  have hm := rr_modk x (nI n) hd
  unfold zf_Machine_trapOfAccess qf_Model_access xx_nz
  rw [if_neg hz]
  by_cases c : (x &&& (nI n - 1)) = 0
  · rw [if_pos c, if_pos (hm.mpr c), rr_holds]
    cases hb : rr_hoB x
    · refine Or.inr (Or.inl ⟨rfl, ?_⟩)
      by_cases c1 : x < 0
      · rw [if_pos c1]; rfl
      · have c2 : ¬ x < 4096 := fun z => by
          have c3 : ¬ (4096 : Int32) ≤ x := Int32.not_le.mpr z
          simp [rr_hoB, c1, c3] at hb
        rw [if_neg c1, if_neg c2]; rfl
    · obtain ⟨a, ha, rfl⟩ := rr_ho hb
      refine Or.inr (Or.inr ⟨a, ha, rfl, ?_, rfl, ?_⟩)
      · rcases hn with rfl | rfl | rfl
        · have : a % 4 < 4 := Nat.mod_lt _ (by decide)
          exact Or.inr (Or.inr ⟨rfl, by omega⟩)
        · rw [pk_andN (by omega) 1 (by decide), ← nI_0, nI_eq (Nat.lt_of_lt_of_le (Nat.mod_lt _ (by decide)) (by decide)) (by decide)] at c
          exact Or.inr (Or.inl ⟨rfl, by omega⟩)
        · rw [pk_andN (by omega) 2 (by decide), ← nI_0, nI_eq (Nat.lt_of_lt_of_le (Nat.mod_lt _ (by decide)) (by decide)) (by decide)] at c
          exact Or.inl ⟨rfl, by omega⟩
      · rw [if_neg (nI_pos (by omega)), if_pos (show nI a < 4096 from nI_lt (b := 4096) ha (by decide))]; rfl
  · rw [if_neg c, if_neg (fun z => c (hm.mp z))]
    exact Or.inl ⟨rfl, rfl⟩
theorem rr_pv4 (W : Int32) {s : Nat} (h : rr_ns 4 s) : (xx_ush W ((8 : Int32) * nI s)) &&& rr_mo 4 = W := by
  have hb := rr_nsB h
  refine bb_ext (fun t ht => ?_)
  rw [rr_partb h W t ht, decide_eq_true (by omega), show 8 * s + t = t by omega]
  rfl
theorem rr_pv1 (W : Int32) {s : Nat} (h : rr_ns 1 s) : (xx_ush W ((8 : Int32) * nI s)) &&& rr_mo 1 = rr_by W s := by
  have hb := rr_nsB h
  refine bb_ext (fun t ht => ?_)
  rw [rr_partb h W t ht, rr_byt _ s (by omega)]
theorem rr_pv2 (W : Int32) {s : Nat} (h : rr_ns 2 s) : (xx_ush W ((8 : Int32) * nI s)) &&& rr_mo 2 = rr_by W s ||| (rr_by W (s + 1) <<< ((8 : Int32) &&& 31)) := by
  have hb := rr_nsB h
  refine bb_ext (fun t ht => ?_)
  rw [rr_partb h W t ht, bb_or, bb_shl, bb_n8, rr_byt _ s (by omega), rr_byt _ (s + 1) (by omega)]
  by_cases c : t < 8
  · have c2 : ¬ 8 ≤ t := by omega
    have c3 : t < 8 * 2 := by omega
    simp [c, c2, c3]
  · by_cases c4 : t < 16
    · have c2 : 8 ≤ t := by omega
      have c3 : t < 8 * 2 := by omega
      have c5 : t - 8 < 8 := by omega
      rw [show 8 * (s + 1) + (t - 8) = 8 * s + t by omega]
      simp [c, c2, c3, c5, ht]
    · have c3 : ¬ t < 8 * 2 := by omega
      have c5 : ¬ t - 8 < 8 := by omega
      simp [c, c3, c5]
theorem rr_se0 (v : Int32) : (v <<< ((0 : Int32) &&& 31)) >>> ((0 : Int32) &&& 31) = v := by
  refine bb_ext (bb_all ?_)
  simp [bb_or, bb_and, bb_xor, bb_shl, bb_shr, bb_ush, bb_n0, bb_n1, bb_n2, bb_n3, bb_n4, bb_n5, bb_n6, bb_n7, bb_n8, bb_n9, bb_n10, bb_n11, bb_n12, bb_n13, bb_n14, bb_n15, bb_n16, bb_n17, bb_n18, bb_n19, bb_n20, bb_n21, bb_n22, bb_n23, bb_n24, bb_n25, bb_n26, bb_n27, bb_n28, bb_n29, bb_n30, bb_n31, bb_m0, bb_m1, bb_m2, bb_m3, bb_m4, bb_m5, bb_m6, bb_m7, bb_m8, bb_m9, bb_m10, bb_m11, bb_m12, bb_m13, bb_m14, bb_m15, bb_m16, bb_m17, bb_m18, bb_m19, bb_m20, bb_m21, bb_m22, bb_m23, bb_m24, bb_m25, bb_m26, bb_m27, bb_m28, bb_m29, bb_m30, bb_m31, bb_l0, bb_l1, bb_l3, bb_l7, bb_l15, bb_l31, bb_l63, bb_l127, bb_l255, bb_l1023, bb_l4095, bb_l1048575, bb_l33550463, bb_l1044480, bb_g4096, bb_g1, bb_g2, Nat.testBit]
theorem rr_se8 (v : Int32) : (v <<< ((24 : Int32) &&& 31)) >>> ((24 : Int32) &&& 31) = v.toInt8.toInt32 := by
  refine bb_ext (bb_all ?_)
  simp [rr_i8, bb_or, bb_and, bb_xor, bb_shl, bb_shr, bb_ush, bb_n0, bb_n1, bb_n2, bb_n3, bb_n4, bb_n5, bb_n6, bb_n7, bb_n8, bb_n9, bb_n10, bb_n11, bb_n12, bb_n13, bb_n14, bb_n15, bb_n16, bb_n17, bb_n18, bb_n19, bb_n20, bb_n21, bb_n22, bb_n23, bb_n24, bb_n25, bb_n26, bb_n27, bb_n28, bb_n29, bb_n30, bb_n31, bb_m0, bb_m1, bb_m2, bb_m3, bb_m4, bb_m5, bb_m6, bb_m7, bb_m8, bb_m9, bb_m10, bb_m11, bb_m12, bb_m13, bb_m14, bb_m15, bb_m16, bb_m17, bb_m18, bb_m19, bb_m20, bb_m21, bb_m22, bb_m23, bb_m24, bb_m25, bb_m26, bb_m27, bb_m28, bb_m29, bb_m30, bb_m31, bb_l0, bb_l1, bb_l3, bb_l7, bb_l15, bb_l31, bb_l63, bb_l127, bb_l255, bb_l1023, bb_l4095, bb_l1048575, bb_l33550463, bb_l1044480, bb_g4096, bb_g1, bb_g2, Nat.testBit]
theorem rr_se16 (v : Int32) : (v <<< ((16 : Int32) &&& 31)) >>> ((16 : Int32) &&& 31) = v.toInt16.toInt32 := by
  refine bb_ext (bb_all ?_)
  simp [rr_i16, bb_or, bb_and, bb_xor, bb_shl, bb_shr, bb_ush, bb_n0, bb_n1, bb_n2, bb_n3, bb_n4, bb_n5, bb_n6, bb_n7, bb_n8, bb_n9, bb_n10, bb_n11, bb_n12, bb_n13, bb_n14, bb_n15, bb_n16, bb_n17, bb_n18, bb_n19, bb_n20, bb_n21, bb_n22, bb_n23, bb_n24, bb_n25, bb_n26, bb_n27, bb_n28, bb_n29, bb_n30, bb_n31, bb_m0, bb_m1, bb_m2, bb_m3, bb_m4, bb_m5, bb_m6, bb_m7, bb_m8, bb_m9, bb_m10, bb_m11, bb_m12, bb_m13, bb_m14, bb_m15, bb_m16, bb_m17, bb_m18, bb_m19, bb_m20, bb_m21, bb_m22, bb_m23, bb_m24, bb_m25, bb_m26, bb_m27, bb_m28, bb_m29, bb_m30, bb_m31, bb_l0, bb_l1, bb_l3, bb_l7, bb_l15, bb_l31, bb_l63, bb_l127, bb_l255, bb_l1023, bb_l4095, bb_l1048575, bb_l33550463, bb_l1044480, bb_g4096, bb_g1, bb_g2, Nat.testBit]
/-- the end of a load -/
theorem rr_ldE (w : qm_S) (rd : Nat) (v p : Int32) (hrd : rd < 32) : (xx_b2 (qf_Model_fetch_b111 w (nI rd) v) fun v17 u16 => if v17 ≤ 0 then (qf_Model_step_b605 u16 p) else (some (v17, u16))) = (xx_as (w.2 14) 32 (nI rd) v).bind fun f => qf_Model_step_b605 (w.1, va_up w.2 14 f) p := by
  unfold qf_Model_fetch_b111
  rw [rr_as hrd (by decide)]
  rfl
theorem rr_load {u : zz_S} {w : qm_S} (hP : rr_P u w) (hpc : w.1 30 = u.1 3) (x : Int32) (rd rs k : Nat) (hrd : rd < 32) (hrs : rs < 32) (hk : k < 8) (e7 : (xx_ush x (7 : Int32)) &&& (31 : Int32) = nI rd) (e15 : (xx_ush x (15 : Int32)) &&& (31 : Int32) = nI rs) (e12 : (xx_ush x (12 : Int32)) &&& (7 : Int32) = nI k) : rr_sd u w (zf_Machine_readMemory u x) (xx_b2 (qf_Model_fetch w (nI k) (u.2.1 2 rs + (x >>> ((20 : Int32) &&& 31))) (nI rd)) fun v17 u16 => if v17 ≤ 0 then (qf_Model_step_b605 u16 (w.1 30 + 4)) else (some (v17, u16))) := by
  have hM := hP.1
  unfold zf_Machine_readMemory zf_Machine_kindOf zf_Machine_firstOf qf_Model_fetch
  rw [e12]
  simp only [rr_b2s, xx_nm]
  rw [e15, rr_ag hrs (by decide)]
  simp only [Option.bind_some, rr_b2s]
  generalize u.2.1 2 rs + (x >>> ((20 : Int32) &&& 31)) = A
  have go : ∀ (n : Nat) (y0 : Int32) (qv : Nat → Int32) (Qf : qm_S → Option (Int32 × qm_S)) (hn : n = 1 ∨ n = 2 ∨ n = 4), (∀ a, a < 4096 → rr_ns n (a % 4) → ((((xx_ush (u.2.1 0 (a / 4)) ((8 : Int32) * nI (a % 4))) &&& rr_mo n) <<< (y0 &&& 31)) >>> (y0 &&& 31)) = qv a) → (∀ a, a < 4096 → rr_ns n (a % 4) → A = nI a → Qf w = qf_Model_fetch_b111 w (nI rd) (qv a)) → rr_sd u w (xx_b2 (zf_Machine_trapOfAccess u A (nI n)) fun v8 u7 => if v8 = 0 then (xx_b2 (zf_Memory_partAt u7 A (nI n)) fun v10 u9 => zf_Machine_readMemory_b80 u9 x v10 y0) else some (v8, u7)) (xx_b2 (xx_b2 (qf_Model_access w A (nI n)) fun v3 u2 => if v3 ≤ 0 then Qf u2 else some (v3, u2)) fun v17 u16 => if v17 ≤ 0 then (qf_Model_step_b605 u16 (w.1 30 + 4)) else (some (v17, u16))) := by
    intro n y0 qv Qf hn hv hq
    rcases rr_acc u w A n hn with ⟨e1, e2⟩ | ⟨e1, e2⟩ | ⟨a, ha, hA, hns, e1, e2⟩
    · rw [e1, e2]; exact rr_sdT hP 4 (by decide) (by decide)
    · rw [e1, e2]; exact rr_sdT hP 5 (by decide) (by decide)
    · rw [e1, e2, rr_b2s, rr_b2s, if_pos rfl, if_pos (show (0 : Int32) ≤ 0 from by decide), hq a ha hns hA]
      subst hA
      rw [rr_partZ u n ha, rr_b2s]
      unfold zf_Machine_readMemory_b80
      rw [rr_b2id, hv a ha hns, ← hpc, rr_ldE w rd (qv a) (w.1 30 + 4) hrd]
      exact rr_sdR hP x (qv a) (w.1 30 + 4) rd hrd e7
  have hby : ∀ a, a < 4096 → qf_Model_byteAt w (nI a) = some (rr_by (u.2.1 0 (a / 4)) (a % 4), w) := fun a ha => by
    unfold qf_Model_byteAt
    rw [rr_ag ha (by decide), Option.bind_some, hM a ha]
  have hb2 : ∀ (β : Type) (g : Int32 → Option β) (a : Nat), a < 4096 → rr_ns 2 (a % 4) → ((xx_ag (w.2 1) 4096 (nI a)).bind fun v6 => (xx_ag (w.2 1) 4096 (nI a + (1 : Int32))).bind fun v7 => g (v6 ||| (v7 <<< ((8 : Int32) &&& 31)))) = g (rr_by (u.2.1 0 (a / 4)) (a % 4) ||| (rr_by (u.2.1 0 (a / 4)) (a % 4 + 1) <<< ((8 : Int32) &&& 31))) := fun β g a ha hns => by
    have hb := rr_nsB hns
    rw [nI_1, rr_ag ha (by decide), Option.bind_some, rr_ag (by omega) (by decide), Option.bind_some, hM a ha, hM (a + 1) (by omega), show (a + 1) / 4 = a / 4 by omega, show (a + 1) % 4 = a % 4 + 1 by omega]
  match k, hk with
  | 0, _ =>
    have q1 : (1 : Int32) <<< ((nI 0 &&& 3) &&& 31) = nI 1 := by decide
    have q2 : (1 : Int32) <<< ((nI 0 - nI 0 / 4 * 4) &&& 31) = nI 1 := by decide
    rw [q1, q2]
    rw [if_neg (show ¬ nI 0 = 3 from by decide), if_pos (show nI 0 ≤ 5 from by decide), if_neg (show ¬ nI 0 = 3 from by decide), if_pos (show nI 0 ≤ 5 from by decide)]
    simp only [show ¬ (4 : Int32) ≤ nI 0 from by decide, show (32 : Int32) - 8 * nI 1 = 24 from by decide, show ¬ nI 1 = 4 from by decide, show ¬ nI 1 = 2 from by decide, if_true, if_false]
    refine go 1 24 (fun a => (rr_by (u.2.1 0 (a / 4)) (a % 4)).toInt8.toInt32) (fun w => xx_b2 (qf_Model_byteAt w A) fun v5 u4 => qf_Model_fetch_b81 u4 (nI 0) (nI rd) v5) (Or.inl rfl) (fun a ha hns => by rw [rr_pv1 _ hns, rr_se8]) (fun a ha hns hA => ?_)
    subst hA
    show xx_b2 (qf_Model_byteAt w (nI a)) _ = _
    rw [hby a ha]
    rfl
  | 1, _ =>
    have q1 : (1 : Int32) <<< ((nI 1 &&& 3) &&& 31) = nI 2 := by decide
    have q2 : (1 : Int32) <<< ((nI 1 - nI 1 / 4 * 4) &&& 31) = nI 2 := by decide
    rw [q1, q2]
    rw [if_neg (show ¬ nI 1 = 3 from by decide), if_pos (show nI 1 ≤ 5 from by decide), if_neg (show ¬ nI 1 = 3 from by decide), if_pos (show nI 1 ≤ 5 from by decide)]
    simp only [show ¬ (4 : Int32) ≤ nI 1 from by decide, show (32 : Int32) - 8 * nI 2 = 16 from by decide, show ¬ nI 2 = 4 from by decide, show (nI 2 = 2) = True from eq_true rfl, if_true, if_false]
    refine go 2 16 (fun a => (rr_by (u.2.1 0 (a / 4)) (a % 4) ||| (rr_by (u.2.1 0 (a / 4)) (a % 4 + 1) <<< ((8 : Int32) &&& 31))).toInt16.toInt32) (fun w => (xx_ag (w.2 1) 4096 A).bind fun v6 => (xx_ag (w.2 1) 4096 (A + 1)).bind fun v7 => qf_Model_fetch_b81 w (nI 1) (nI rd) (v6 ||| v7 <<< (8 &&& 31))) (Or.inr (Or.inl rfl)) (fun a ha hns => by rw [rr_pv2 _ hns, rr_se16]) (fun a ha hns hA => ?_)
    subst hA
    exact hb2 _ (fun v => qf_Model_fetch_b81 w (nI 1) (nI rd) v) a ha hns
  | 2, _ =>
    have q1 : (1 : Int32) <<< ((nI 2 &&& 3) &&& 31) = nI 4 := by decide
    have q2 : (1 : Int32) <<< ((nI 2 - nI 2 / 4 * 4) &&& 31) = nI 4 := by decide
    rw [q1, q2]
    rw [if_neg (show ¬ nI 2 = 3 from by decide), if_pos (show nI 2 ≤ 5 from by decide), if_neg (show ¬ nI 2 = 3 from by decide), if_pos (show nI 2 ≤ 5 from by decide)]
    simp only [show ¬ (4 : Int32) ≤ nI 2 from by decide, show (32 : Int32) - 8 * nI 4 = 0 from by decide, show (nI 4 = 4) = True from eq_true rfl, if_true, if_false]
    refine go 4 0 (fun a => u.2.1 0 (a / 4)) (fun w => xx_b2 (qf_Model_wordAt w A) fun v5 u4 => qf_Model_fetch_b81 u4 (nI 2) (nI rd) v5) (Or.inr (Or.inr rfl)) (fun a ha hns => by rw [rr_pv4 _ hns, rr_se0]) (fun a ha hns hA => ?_)
    subst hA
    have hb := rr_nsB hns
    show xx_b2 (qf_Model_wordAt w (nI a)) _ = _
    rw [rr_wordQ hM ha (by omega)]
    rfl
  | 3, _ => exact rr_sdT hP 3 (by decide) (by decide)
  | 4, _ =>
    have q1 : (1 : Int32) <<< ((nI 4 &&& 3) &&& 31) = nI 1 := by decide
    have q2 : (1 : Int32) <<< ((nI 4 - nI 4 / 4 * 4) &&& 31) = nI 1 := by decide
    rw [q1, q2]
    rw [if_neg (show ¬ nI 4 = 3 from by decide), if_pos (show nI 4 ≤ 5 from by decide), if_neg (show ¬ nI 4 = 3 from by decide), if_pos (show nI 4 ≤ 5 from by decide)]
    simp only [show (4 : Int32) ≤ nI 4 from by decide, show ¬ nI 1 = 4 from by decide, show ¬ nI 1 = 2 from by decide, if_true, if_false]
    refine go 1 0 (fun a => rr_by (u.2.1 0 (a / 4)) (a % 4)) (fun w => xx_b2 (qf_Model_byteAt w A) fun v5 u4 => qf_Model_fetch_b81 u4 (nI 4) (nI rd) v5) (Or.inl rfl) (fun a ha hns => by rw [rr_pv1 _ hns, rr_se0]) (fun a ha hns hA => ?_)
    subst hA
    show xx_b2 (qf_Model_byteAt w (nI a)) _ = _
    rw [hby a ha]
    rfl
  | 5, _ =>
    have q1 : (1 : Int32) <<< ((nI 5 &&& 3) &&& 31) = nI 2 := by decide
    have q2 : (1 : Int32) <<< ((nI 5 - nI 5 / 4 * 4) &&& 31) = nI 2 := by decide
    rw [q1, q2]
    rw [if_neg (show ¬ nI 5 = 3 from by decide), if_pos (show nI 5 ≤ 5 from by decide), if_neg (show ¬ nI 5 = 3 from by decide), if_pos (show nI 5 ≤ 5 from by decide)]
    simp only [show (4 : Int32) ≤ nI 5 from by decide, show ¬ nI 2 = 4 from by decide, show (nI 2 = 2) = True from eq_true rfl, if_true, if_false]
    refine go 2 0 (fun a => (rr_by (u.2.1 0 (a / 4)) (a % 4) ||| (rr_by (u.2.1 0 (a / 4)) (a % 4 + 1) <<< ((8 : Int32) &&& 31)))) (fun w => (xx_ag (w.2 1) 4096 A).bind fun v6 => (xx_ag (w.2 1) 4096 (A + 1)).bind fun v7 => qf_Model_fetch_b81 w (nI 5) (nI rd) (v6 ||| v7 <<< (8 &&& 31))) (Or.inr (Or.inl rfl)) (fun a ha hns => by rw [rr_pv2 _ hns, rr_se0]) (fun a ha hns hA => ?_)
    subst hA
    exact hb2 _ (fun v => qf_Model_fetch_b81 w (nI 5) (nI rd) v) a ha hns
  | 6, _ => exact rr_sdT hP 3 (by decide) (by decide)
  | 7, _ => exact rr_sdT hP 3 (by decide) (by decide)
  | n + 8, h => exact absurd h (by omega)
