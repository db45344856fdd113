/-! a step of the machine on both sides: what it leaves -/
def rr_fz (u u1 : zz_S) : Prop := (∀ k, k ≠ 3 → u1.1 k = u.1 k) ∧ u1.2.1 1 = u.2.1 1 ∧ u1.2.1 3 = u.2.1 3 ∧ u1.2.2 = u.2.2
def rr_fq (w w1 : qm_S) : Prop := (∀ k, k ≠ 30 → w1.1 k = w.1 k) ∧ ∀ k, k ≠ 1 → k ≠ 14 → w1.2 k = w.2 k
/-- memory, registers but the first, the first of the class -/
def rr_P (u : zz_S) (w : qm_S) : Prop := rr_M u w ∧ (∀ k, 0 < k → k < 32 → w.2 14 k = u.2.1 2 k) ∧ u.2.1 2 0 = 0
def rr_sd (u : zz_S) (w : qm_S) (oz : Option (Int32 × zz_S)) (oq : Option (Int32 × qm_S)) : Prop := ∃ (t : Nat) (u1 : zz_S) (w1 : qm_S), oz = some (nI t, u1) ∧ oq = some (nI t, w1) ∧ t ≤ 6 ∧ rr_fz u u1 ∧ rr_fq w w1 ∧ rr_P u1 w1 ∧ (t = 0 → w1.1 30 = u1.1 3)
theorem rr_fzr (u : zz_S) : rr_fz u u := ⟨fun _ _ => rfl, rfl, rfl, rfl⟩
theorem rr_fqr (w : qm_S) : rr_fq w w := ⟨fun _ _ => rfl, fun _ _ _ => rfl⟩
theorem rr_sdT {u : zz_S} {w : qm_S} (hP : rr_P u w) (t : Nat) (h0 : 0 < t) (h6 : t ≤ 6) : rr_sd u w (some (nI t, u)) (some (nI t, w)) := ⟨t, u, w, rfl, rfl, h6, rr_fzr u, rr_fqr w, hP, fun h => absurd h (by omega)⟩
theorem rr_b2id {α β : Type} (o : Option (α × β)) : (xx_b2 o fun v u => some (v, u)) = o := by
  unfold xx_b2
  cases o <;> rfl
theorem rr_sdR {u : zz_S} {w : qm_S} (hP : rr_P u w) (x v p : Int32) (rd : Nat) (hrd : rd < 32) (e : (xx_ush x (7 : Int32)) &&& (31 : Int32) = nI rd) : rr_sd u w (zf_Machine_finish u x v p) ((xx_as (w.2 14) 32 (nI rd) v).bind fun f => qf_Model_step_b605 (w.1, va_up w.2 14 f) p) := by
  obtain ⟨hM, hR, h0⟩ := hP
  unfold zf_Machine_finish
  simp only [xx_nm]
  rw [e, rr_as hrd (by decide), Option.bind_some, rr_as hrd (by decide), Option.bind_some]
  by_cases hz : rd = 0
  · subst hz
    rw [if_pos (show nI 0 = 0 from rfl)]
    refine ⟨0, (va_up u.1 3 p, u.2), (va_up w.1 30 p, va_up w.2 14 (va_up (w.2 14) 0 v)), rfl, rfl, by decide, ⟨fun k hk => rr_upN _ _ hk, rfl, rfl, rfl⟩, ⟨fun k hk => rr_upN _ _ hk, fun k _ hk => rr_upN _ _ hk⟩, ⟨hM, fun k h1 h2 => ?_, h0⟩, fun _ => rfl⟩
    show va_up (w.2 14) 0 v k = u.2.1 2 k
    rw [rr_upN _ _ (by omega)]
    exact hR k h1 h2
  · rw [if_neg (show ¬ nI rd = 0 from fun z => hz ((nI_eq (b := 0) (by omega) (by decide)).mp z))]
    refine ⟨0, (va_up u.1 3 p, va_up u.2.1 2 (va_up (u.2.1 2) rd v), u.2.2), (va_up w.1 30 p, va_up w.2 14 (va_up (w.2 14) rd v)), rfl, rfl, by decide, ⟨fun k hk => rr_upN _ _ hk, rfl, rfl, rfl⟩, ⟨fun k hk => rr_upN _ _ hk, fun k _ hk => rr_upN _ _ hk⟩, ⟨hM, fun k h1 h2 => ?_, ?_⟩, fun _ => rfl⟩
    · show va_up (w.2 14) rd v k = va_up (u.2.1 2) rd v k
      by_cases ek : k = rd
      · rw [ek, rr_upS, rr_upS]
      · rw [rr_upN _ _ ek, rr_upN _ _ ek]
        exact hR k h1 h2
    · show va_up (u.2.1 2) rd v 0 = 0
      rw [rr_upN _ _ (fun z => hz z.symm)]
      exact h0
/-- the next address alone -/
theorem rr_sdJ {u : zz_S} {w : qm_S} (hP : rr_P u w) (p : Int32) : rr_sd u w (some ((0 : Int32), ((va_up u.1 3 p, u.2) : zz_S))) (qf_Model_step_b605 w p) :=
  ⟨0, (va_up u.1 3 p, u.2), (va_up w.1 30 p, w.2), rfl, rfl, by decide, ⟨fun k hk => rr_upN _ _ hk, rfl, rfl, rfl⟩, ⟨fun k hk => rr_upN _ _ hk, fun _ _ _ => rfl⟩, hP, fun _ => rfl⟩
theorem rr_mk5 : ((1 : Int32) <<< ((5 : Int32) &&& 31)) - 1 = 31 := by decide
theorem rr_mk3 : ((1 : Int32) <<< ((3 : Int32) &&& 31)) - 1 = 7 := by decide
theorem rr_mk1 : ((1 : Int32) <<< ((1 : Int32) &&& 31)) - 1 = 1 := by decide
theorem rr_mk6 : ((1 : Int32) <<< ((6 : Int32) &&& 31)) - 1 = 63 := by decide
theorem rr_mk4 : ((1 : Int32) <<< ((4 : Int32) &&& 31)) - 1 = 15 := by decide
theorem rr_mk8 : ((1 : Int32) <<< ((8 : Int32) &&& 31)) - 1 = 255 := by decide
theorem rr_mk10 : ((1 : Int32) <<< ((10 : Int32) &&& 31)) - 1 = 1023 := by decide
theorem rr_f7 (x : Int32) : (x >>> ((7 : Int32) &&& 31)) &&& (31 : Int32) = (xx_ush x 7) &&& 31 := by
  refine bb_ext (bb_all ?_)
  simp [bb_or, bb_and, bb_xor, bb_shl, bb_shr, bb_ush, bb_n0, bb_n1, bb_n2, bb_n3, bb_n4, bb_n5, bb_n6, bb_n7, bb_n8, bb_n9, bb_n10, bb_n11, bb_n12, bb_n13, bb_n14, bb_n15, bb_n16, bb_n17, bb_n18, bb_n19, bb_n20, bb_n21, bb_n22, bb_n23, bb_n24, bb_n25, bb_n26, bb_n27, bb_n28, bb_n29, bb_n30, bb_n31, bb_m0, bb_m1, bb_m2, bb_m3, bb_m4, bb_m5, bb_m6, bb_m7, bb_m8, bb_m9, bb_m10, bb_m11, bb_m12, bb_m13, bb_m14, bb_m15, bb_m16, bb_m17, bb_m18, bb_m19, bb_m20, bb_m21, bb_m22, bb_m23, bb_m24, bb_m25, bb_m26, bb_m27, bb_m28, bb_m29, bb_m30, bb_m31, bb_l0, bb_l1, bb_l3, bb_l7, bb_l15, bb_l31, bb_l63, bb_l127, bb_l255, bb_l1023, bb_l4095, bb_l1048575, bb_l33550463, bb_l1044480, bb_g4096, bb_g1, bb_g2, Nat.testBit]
theorem rr_f15 (x : Int32) : (x >>> ((15 : Int32) &&& 31)) &&& (31 : Int32) = (xx_ush x 15) &&& 31 := by
  refine bb_ext (bb_all ?_)
  simp [bb_or, bb_and, bb_xor, bb_shl, bb_shr, bb_ush, bb_n0, bb_n1, bb_n2, bb_n3, bb_n4, bb_n5, bb_n6, bb_n7, bb_n8, bb_n9, bb_n10, bb_n11, bb_n12, bb_n13, bb_n14, bb_n15, bb_n16, bb_n17, bb_n18, bb_n19, bb_n20, bb_n21, bb_n22, bb_n23, bb_n24, bb_n25, bb_n26, bb_n27, bb_n28, bb_n29, bb_n30, bb_n31, bb_m0, bb_m1, bb_m2, bb_m3, bb_m4, bb_m5, bb_m6, bb_m7, bb_m8, bb_m9, bb_m10, bb_m11, bb_m12, bb_m13, bb_m14, bb_m15, bb_m16, bb_m17, bb_m18, bb_m19, bb_m20, bb_m21, bb_m22, bb_m23, bb_m24, bb_m25, bb_m26, bb_m27, bb_m28, bb_m29, bb_m30, bb_m31, bb_l0, bb_l1, bb_l3, bb_l7, bb_l15, bb_l31, bb_l63, bb_l127, bb_l255, bb_l1023, bb_l4095, bb_l1048575, bb_l33550463, bb_l1044480, bb_g4096, bb_g1, bb_g2, Nat.testBit]
theorem rr_f20 (x : Int32) : (x >>> ((20 : Int32) &&& 31)) &&& (31 : Int32) = (xx_ush x 20) &&& 31 := by
  refine bb_ext (bb_all ?_)
  simp [bb_or, bb_and, bb_xor, bb_shl, bb_shr, bb_ush, bb_n0, bb_n1, bb_n2, bb_n3, bb_n4, bb_n5, bb_n6, bb_n7, bb_n8, bb_n9, bb_n10, bb_n11, bb_n12, bb_n13, bb_n14, bb_n15, bb_n16, bb_n17, bb_n18, bb_n19, bb_n20, bb_n21, bb_n22, bb_n23, bb_n24, bb_n25, bb_n26, bb_n27, bb_n28, bb_n29, bb_n30, bb_n31, bb_m0, bb_m1, bb_m2, bb_m3, bb_m4, bb_m5, bb_m6, bb_m7, bb_m8, bb_m9, bb_m10, bb_m11, bb_m12, bb_m13, bb_m14, bb_m15, bb_m16, bb_m17, bb_m18, bb_m19, bb_m20, bb_m21, bb_m22, bb_m23, bb_m24, bb_m25, bb_m26, bb_m27, bb_m28, bb_m29, bb_m30, bb_m31, bb_l0, bb_l1, bb_l3, bb_l7, bb_l15, bb_l31, bb_l63, bb_l127, bb_l255, bb_l1023, bb_l4095, bb_l1048575, bb_l33550463, bb_l1044480, bb_g4096, bb_g1, bb_g2, Nat.testBit]
theorem rr_f12 (x : Int32) : (x >>> ((12 : Int32) &&& 31)) &&& (7 : Int32) = (xx_ush x 12) &&& 7 := by
  refine bb_ext (bb_all ?_)
  simp [bb_or, bb_and, bb_xor, bb_shl, bb_shr, bb_ush, bb_n0, bb_n1, bb_n2, bb_n3, bb_n4, bb_n5, bb_n6, bb_n7, bb_n8, bb_n9, bb_n10, bb_n11, bb_n12, bb_n13, bb_n14, bb_n15, bb_n16, bb_n17, bb_n18, bb_n19, bb_n20, bb_n21, bb_n22, bb_n23, bb_n24, bb_n25, bb_n26, bb_n27, bb_n28, bb_n29, bb_n30, bb_n31, bb_m0, bb_m1, bb_m2, bb_m3, bb_m4, bb_m5, bb_m6, bb_m7, bb_m8, bb_m9, bb_m10, bb_m11, bb_m12, bb_m13, bb_m14, bb_m15, bb_m16, bb_m17, bb_m18, bb_m19, bb_m20, bb_m21, bb_m22, bb_m23, bb_m24, bb_m25, bb_m26, bb_m27, bb_m28, bb_m29, bb_m30, bb_m31, bb_l0, bb_l1, bb_l3, bb_l7, bb_l15, bb_l31, bb_l63, bb_l127, bb_l255, bb_l1023, bb_l4095, bb_l1048575, bb_l33550463, bb_l1044480, bb_g4096, bb_g1, bb_g2, Nat.testBit]
theorem rr_jd (x : Int32) : ((((x >>> ((31 : Int32) &&& 31)) <<< ((20 : Int32) &&& 31)) ||| (((x >>> ((12 : Int32) &&& 31)) &&& 255) <<< ((12 : Int32) &&& 31))) ||| (((x >>> ((20 : Int32) &&& 31)) &&& 1) <<< ((11 : Int32) &&& 31))) ||| (((x >>> ((21 : Int32) &&& 31)) &&& 1023) <<< ((1 : Int32) &&& 31)) = ((((x >>> ((31 : Int32) &&& 31)) <<< ((20 : Int32) &&& 31)) ||| (x &&& (1044480 : Int32))) ||| (((xx_ush x (20 : Int32)) &&& (1 : Int32)) <<< ((11 : Int32) &&& 31))) ||| (((xx_ush x (21 : Int32)) &&& (1023 : Int32)) <<< ((1 : Int32) &&& 31)) := by
  refine bb_ext (bb_all ?_)
  simp [bb_or, bb_and, bb_xor, bb_shl, bb_shr, bb_ush, bb_n0, bb_n1, bb_n2, bb_n3, bb_n4, bb_n5, bb_n6, bb_n7, bb_n8, bb_n9, bb_n10, bb_n11, bb_n12, bb_n13, bb_n14, bb_n15, bb_n16, bb_n17, bb_n18, bb_n19, bb_n20, bb_n21, bb_n22, bb_n23, bb_n24, bb_n25, bb_n26, bb_n27, bb_n28, bb_n29, bb_n30, bb_n31, bb_m0, bb_m1, bb_m2, bb_m3, bb_m4, bb_m5, bb_m6, bb_m7, bb_m8, bb_m9, bb_m10, bb_m11, bb_m12, bb_m13, bb_m14, bb_m15, bb_m16, bb_m17, bb_m18, bb_m19, bb_m20, bb_m21, bb_m22, bb_m23, bb_m24, bb_m25, bb_m26, bb_m27, bb_m28, bb_m29, bb_m30, bb_m31, bb_l0, bb_l1, bb_l3, bb_l7, bb_l15, bb_l31, bb_l63, bb_l127, bb_l255, bb_l1023, bb_l4095, bb_l1048575, bb_l33550463, bb_l1044480, bb_g4096, bb_g1, bb_g2, Nat.testBit]
theorem rr_bd (x : Int32) : ((((x >>> ((31 : Int32) &&& 31)) <<< ((12 : Int32) &&& 31)) ||| (((x >>> ((7 : Int32) &&& 31)) &&& 1) <<< ((11 : Int32) &&& 31))) ||| (((x >>> ((25 : Int32) &&& 31)) &&& 63) <<< ((5 : Int32) &&& 31))) ||| (((x >>> ((8 : Int32) &&& 31)) &&& 15) <<< ((1 : Int32) &&& 31)) = ((((x >>> ((31 : Int32) &&& 31)) <<< ((12 : Int32) &&& 31)) ||| (((xx_ush x (7 : Int32)) &&& (1 : Int32)) <<< ((11 : Int32) &&& 31))) ||| (((xx_ush x (25 : Int32)) &&& (63 : Int32)) <<< ((5 : Int32) &&& 31))) ||| (((xx_ush x (8 : Int32)) &&& (15 : Int32)) <<< ((1 : Int32) &&& 31)) := by
  refine bb_ext (bb_all ?_)
  simp [bb_or, bb_and, bb_xor, bb_shl, bb_shr, bb_ush, bb_n0, bb_n1, bb_n2, bb_n3, bb_n4, bb_n5, bb_n6, bb_n7, bb_n8, bb_n9, bb_n10, bb_n11, bb_n12, bb_n13, bb_n14, bb_n15, bb_n16, bb_n17, bb_n18, bb_n19, bb_n20, bb_n21, bb_n22, bb_n23, bb_n24, bb_n25, bb_n26, bb_n27, bb_n28, bb_n29, bb_n30, bb_n31, bb_m0, bb_m1, bb_m2, bb_m3, bb_m4, bb_m5, bb_m6, bb_m7, bb_m8, bb_m9, bb_m10, bb_m11, bb_m12, bb_m13, bb_m14, bb_m15, bb_m16, bb_m17, bb_m18, bb_m19, bb_m20, bb_m21, bb_m22, bb_m23, bb_m24, bb_m25, bb_m26, bb_m27, bb_m28, bb_m29, bb_m30, bb_m31, bb_l0, bb_l1, bb_l3, bb_l7, bb_l15, bb_l31, bb_l63, bb_l127, bb_l255, bb_l1023, bb_l4095, bb_l1048575, bb_l33550463, bb_l1044480, bb_g4096, bb_g1, bb_g2, Nat.testBit]
/-- what is computed: alike but for the subtraction -/
theorem rr_comp (u : zz_S) (w : qm_S) (k : Nat) (b : Bool) (x y z : Int32) (h1 : k = 1 ∨ k = 5 → z &&& 31 = y &&& 31) (h2 : k ≠ 1 → k ≠ 5 → z = y) (hk : k < 8) (hb : ¬ (k = 0 ∧ b = true)) : ∃ v, zf_Machine_computed u (nI k) (rr_bi b) x y = some (v, u) ∧ qf_Model_reckon w (nI k) x z (rr_bi b) = some (v, w) := by
  have ne : ∀ a c : Nat, a < 8 → c < 8 → a ≠ c → ¬ nI a = nI c := fun a c ha hc hac h => hac ((nI_eq (by omega) (by omega)).mp h)
  unfold zf_Machine_computed qf_Model_reckon
  have e31 : (y &&& 31) &&& 31 = y &&& 31 := by rw [Int32.and_assoc, show (31 : Int32) &&& 31 = 31 from by decide]
  match k, hk with
  | 0, _ =>
    have hb : b = false := by cases b; rfl; exact absurd ⟨rfl, rfl⟩ hb
    subst hb
    have e := h2 (by decide) (by decide)
    subst e
    exact ⟨x + z, rfl, rfl⟩
  | 1, _ =>
    refine ⟨x <<< (y &&& 31), ?_, ?_⟩
    · rw [if_neg (show ¬ nI 1 = 0 from by decide), if_pos (show nI 1 = 1 from rfl), e31]
    · rw [if_neg (show ¬ nI 1 = 0 from by decide), if_pos (show nI 1 = 1 from rfl), h1 (Or.inl rfl)]
  | 2, _ =>
    have e := h2 (by decide) (by decide)
    subst e
    rw [if_neg (show ¬ nI 2 = 0 from by decide), if_neg (show ¬ nI 2 = 1 from by decide), if_pos (show nI 2 = 2 from rfl), if_neg (show ¬ nI 2 = 0 from by decide), if_neg (show ¬ nI 2 = 1 from by decide), if_pos (show nI 2 = 2 from rfl)]
    by_cases c : z ≤ x
    · rw [if_pos c, if_pos c]; exact ⟨0, rfl, rfl⟩
    · rw [if_neg c, if_neg c]; exact ⟨1, rfl, rfl⟩
  | 3, _ =>
    have e := h2 (by decide) (by decide)
    subst e
    rw [if_neg (show ¬ nI 3 = 0 from by decide), if_neg (show ¬ nI 3 = 1 from by decide), if_neg (show ¬ nI 3 = 2 from by decide), if_pos (show nI 3 = 3 from rfl), if_neg (show ¬ nI 3 = 0 from by decide), if_neg (show ¬ nI 3 = 1 from by decide), if_neg (show ¬ nI 3 = 2 from by decide), if_pos (show nI 3 = 3 from rfl)]
    obtain ⟨c, e1, e2⟩ := rr_below u w x z
    rw [e1, e2]
    cases c
    · exact ⟨0, rfl, rfl⟩
    · exact ⟨1, rfl, rfl⟩
  | 4, _ =>
    have e := h2 (by decide) (by decide)
    subst e
    exact ⟨x ^^^ z, rfl, rfl⟩
  | 5, _ =>
    cases b
    · refine ⟨xx_ush x (y &&& 31), rfl, ?_⟩
      show some (xx_ush x z, w) = _
      congr 2
      have q : xx_ush x z = xx_ush x (z &&& 31) := by
        refine bb_ext (fun i _ => ?_)
        rw [bb_ush, bb_ush]
        congr 2
        unfold bb_m
        rw [show (z &&& 31).toUInt32 = z.toUInt32 &&& Int32.toUInt32 31 from rfl, UInt32.and_assoc, UInt32.and_self]
      rw [q, h1 (Or.inr rfl)]
    · refine ⟨x >>> (y &&& 31), ?_, ?_⟩
      · show some (x >>> ((y &&& 31) &&& 31), u) = _
        rw [e31]
      · show some (x >>> (z &&& 31), w) = _
        rw [h1 (Or.inr rfl)]
  | 6, _ =>
    have e := h2 (by decide) (by decide)
    subst e
    exact ⟨x ||| z, rfl, rfl⟩
  | 7, _ =>
    have e := h2 (by decide) (by decide)
    subst e
    exact ⟨x &&& z, rfl, rfl⟩
  | n + 8, h => exact absurd h (by omega)
