/-! places that are mended -/
def rr_mdv (k x y : Int32) : Int32 := if k = 0 then y else if k = 1 then ((x &&& (4095 : Int32)) ||| ((y + (2048 : Int32)) &&& (-4096 : Int32))) else if k = 2 then ((x &&& (1048575 : Int32)) ||| (y <<< ((20 : Int32) &&& 31))) else if k = 3 then (((x &&& (33550463 : Int32)) ||| (((y >>> ((5 : Int32) &&& 31)) &&& (127 : Int32)) <<< ((25 : Int32) &&& 31))) ||| ((y &&& (31 : Int32)) <<< ((7 : Int32) &&& 31))) else if k = 4 then (((((x &&& (4095 : Int32)) ||| (((y >>> ((20 : Int32) &&& 31)) &&& (1 : Int32)) <<< ((31 : Int32) &&& 31))) ||| (((y >>> ((1 : Int32) &&& 31)) &&& (1023 : Int32)) <<< ((21 : Int32) &&& 31))) ||| (((y >>> ((11 : Int32) &&& 31)) &&& (1 : Int32)) <<< ((20 : Int32) &&& 31))) ||| (((y >>> ((12 : Int32) &&& 31)) &&& (255 : Int32)) <<< ((12 : Int32) &&& 31))) else (((((x &&& (33550463 : Int32)) ||| (((y >>> ((12 : Int32) &&& 31)) &&& (1 : Int32)) <<< ((31 : Int32) &&& 31))) ||| (((y >>> ((5 : Int32) &&& 31)) &&& (63 : Int32)) <<< ((25 : Int32) &&& 31))) ||| (((y >>> ((1 : Int32) &&& 31)) &&& (15 : Int32)) <<< ((8 : Int32) &&& 31))) ||| (((y >>> ((11 : Int32) &&& 31)) &&& (1 : Int32)) <<< ((7 : Int32) &&& 31)))
theorem rr_ub1 (y : Int32) : xx_ush y 5 &&& (127 : Int32) = (y >>> ((5 : Int32) &&& 31)) &&& (127 : Int32) := by
  refine bb_ext (bb_all ?_)
  simp [bb_or, bb_and, bb_xor, bb_shl, bb_shr, bb_ush, bb_n0, bb_n1, bb_n2, bb_n3, bb_n4, bb_n5, bb_n6, bb_n7, bb_n8, bb_n9, bb_n10, bb_n11, bb_n12, bb_n13, bb_n14, bb_n15, bb_n16, bb_n17, bb_n18, bb_n19, bb_n20, bb_n21, bb_n22, bb_n23, bb_n24, bb_n25, bb_n26, bb_n27, bb_n28, bb_n29, bb_n30, bb_n31, bb_m0, bb_m1, bb_m2, bb_m3, bb_m4, bb_m5, bb_m6, bb_m7, bb_m8, bb_m9, bb_m10, bb_m11, bb_m12, bb_m13, bb_m14, bb_m15, bb_m16, bb_m17, bb_m18, bb_m19, bb_m20, bb_m21, bb_m22, bb_m23, bb_m24, bb_m25, bb_m26, bb_m27, bb_m28, bb_m29, bb_m30, bb_m31, bb_l0, bb_l1, bb_l3, bb_l7, bb_l15, bb_l31, bb_l63, bb_l127, bb_l255, bb_l1023, bb_l4095, bb_l1048575, bb_l33550463, bb_l1044480, bb_g4096, bb_g1, bb_g2, Nat.testBit]
theorem rr_ub2 (y : Int32) : xx_ush y 0 &&& (31 : Int32) = y &&& (31 : Int32) := by
  refine bb_ext (bb_all ?_)
  simp [bb_or, bb_and, bb_xor, bb_shl, bb_shr, bb_ush, bb_n0, bb_n1, bb_n2, bb_n3, bb_n4, bb_n5, bb_n6, bb_n7, bb_n8, bb_n9, bb_n10, bb_n11, bb_n12, bb_n13, bb_n14, bb_n15, bb_n16, bb_n17, bb_n18, bb_n19, bb_n20, bb_n21, bb_n22, bb_n23, bb_n24, bb_n25, bb_n26, bb_n27, bb_n28, bb_n29, bb_n30, bb_n31, bb_m0, bb_m1, bb_m2, bb_m3, bb_m4, bb_m5, bb_m6, bb_m7, bb_m8, bb_m9, bb_m10, bb_m11, bb_m12, bb_m13, bb_m14, bb_m15, bb_m16, bb_m17, bb_m18, bb_m19, bb_m20, bb_m21, bb_m22, bb_m23, bb_m24, bb_m25, bb_m26, bb_m27, bb_m28, bb_m29, bb_m30, bb_m31, bb_l0, bb_l1, bb_l3, bb_l7, bb_l15, bb_l31, bb_l63, bb_l127, bb_l255, bb_l1023, bb_l4095, bb_l1048575, bb_l33550463, bb_l1044480, bb_g4096, bb_g1, bb_g2, Nat.testBit]
theorem rr_ub3 (y : Int32) : xx_ush y 20 &&& (1 : Int32) = (y >>> ((20 : Int32) &&& 31)) &&& (1 : Int32) := by
  refine bb_ext (bb_all ?_)
  simp [bb_or, bb_and, bb_xor, bb_shl, bb_shr, bb_ush, bb_n0, bb_n1, bb_n2, bb_n3, bb_n4, bb_n5, bb_n6, bb_n7, bb_n8, bb_n9, bb_n10, bb_n11, bb_n12, bb_n13, bb_n14, bb_n15, bb_n16, bb_n17, bb_n18, bb_n19, bb_n20, bb_n21, bb_n22, bb_n23, bb_n24, bb_n25, bb_n26, bb_n27, bb_n28, bb_n29, bb_n30, bb_n31, bb_m0, bb_m1, bb_m2, bb_m3, bb_m4, bb_m5, bb_m6, bb_m7, bb_m8, bb_m9, bb_m10, bb_m11, bb_m12, bb_m13, bb_m14, bb_m15, bb_m16, bb_m17, bb_m18, bb_m19, bb_m20, bb_m21, bb_m22, bb_m23, bb_m24, bb_m25, bb_m26, bb_m27, bb_m28, bb_m29, bb_m30, bb_m31, bb_l0, bb_l1, bb_l3, bb_l7, bb_l15, bb_l31, bb_l63, bb_l127, bb_l255, bb_l1023, bb_l4095, bb_l1048575, bb_l33550463, bb_l1044480, bb_g4096, bb_g1, bb_g2, Nat.testBit]
theorem rr_ub4 (y : Int32) : xx_ush y 1 &&& (1023 : Int32) = (y >>> ((1 : Int32) &&& 31)) &&& (1023 : Int32) := by
  refine bb_ext (bb_all ?_)
  simp [bb_or, bb_and, bb_xor, bb_shl, bb_shr, bb_ush, bb_n0, bb_n1, bb_n2, bb_n3, bb_n4, bb_n5, bb_n6, bb_n7, bb_n8, bb_n9, bb_n10, bb_n11, bb_n12, bb_n13, bb_n14, bb_n15, bb_n16, bb_n17, bb_n18, bb_n19, bb_n20, bb_n21, bb_n22, bb_n23, bb_n24, bb_n25, bb_n26, bb_n27, bb_n28, bb_n29, bb_n30, bb_n31, bb_m0, bb_m1, bb_m2, bb_m3, bb_m4, bb_m5, bb_m6, bb_m7, bb_m8, bb_m9, bb_m10, bb_m11, bb_m12, bb_m13, bb_m14, bb_m15, bb_m16, bb_m17, bb_m18, bb_m19, bb_m20, bb_m21, bb_m22, bb_m23, bb_m24, bb_m25, bb_m26, bb_m27, bb_m28, bb_m29, bb_m30, bb_m31, bb_l0, bb_l1, bb_l3, bb_l7, bb_l15, bb_l31, bb_l63, bb_l127, bb_l255, bb_l1023, bb_l4095, bb_l1048575, bb_l33550463, bb_l1044480, bb_g4096, bb_g1, bb_g2, Nat.testBit]
theorem rr_ub5 (y : Int32) : xx_ush y 11 &&& (1 : Int32) = (y >>> ((11 : Int32) &&& 31)) &&& (1 : Int32) := by
  refine bb_ext (bb_all ?_)
  simp [bb_or, bb_and, bb_xor, bb_shl, bb_shr, bb_ush, bb_n0, bb_n1, bb_n2, bb_n3, bb_n4, bb_n5, bb_n6, bb_n7, bb_n8, bb_n9, bb_n10, bb_n11, bb_n12, bb_n13, bb_n14, bb_n15, bb_n16, bb_n17, bb_n18, bb_n19, bb_n20, bb_n21, bb_n22, bb_n23, bb_n24, bb_n25, bb_n26, bb_n27, bb_n28, bb_n29, bb_n30, bb_n31, bb_m0, bb_m1, bb_m2, bb_m3, bb_m4, bb_m5, bb_m6, bb_m7, bb_m8, bb_m9, bb_m10, bb_m11, bb_m12, bb_m13, bb_m14, bb_m15, bb_m16, bb_m17, bb_m18, bb_m19, bb_m20, bb_m21, bb_m22, bb_m23, bb_m24, bb_m25, bb_m26, bb_m27, bb_m28, bb_m29, bb_m30, bb_m31, bb_l0, bb_l1, bb_l3, bb_l7, bb_l15, bb_l31, bb_l63, bb_l127, bb_l255, bb_l1023, bb_l4095, bb_l1048575, bb_l33550463, bb_l1044480, bb_g4096, bb_g1, bb_g2, Nat.testBit]
theorem rr_ub6 (y : Int32) : xx_ush y 12 &&& (255 : Int32) = (y >>> ((12 : Int32) &&& 31)) &&& (255 : Int32) := by
  refine bb_ext (bb_all ?_)
  simp [bb_or, bb_and, bb_xor, bb_shl, bb_shr, bb_ush, bb_n0, bb_n1, bb_n2, bb_n3, bb_n4, bb_n5, bb_n6, bb_n7, bb_n8, bb_n9, bb_n10, bb_n11, bb_n12, bb_n13, bb_n14, bb_n15, bb_n16, bb_n17, bb_n18, bb_n19, bb_n20, bb_n21, bb_n22, bb_n23, bb_n24, bb_n25, bb_n26, bb_n27, bb_n28, bb_n29, bb_n30, bb_n31, bb_m0, bb_m1, bb_m2, bb_m3, bb_m4, bb_m5, bb_m6, bb_m7, bb_m8, bb_m9, bb_m10, bb_m11, bb_m12, bb_m13, bb_m14, bb_m15, bb_m16, bb_m17, bb_m18, bb_m19, bb_m20, bb_m21, bb_m22, bb_m23, bb_m24, bb_m25, bb_m26, bb_m27, bb_m28, bb_m29, bb_m30, bb_m31, bb_l0, bb_l1, bb_l3, bb_l7, bb_l15, bb_l31, bb_l63, bb_l127, bb_l255, bb_l1023, bb_l4095, bb_l1048575, bb_l33550463, bb_l1044480, bb_g4096, bb_g1, bb_g2, Nat.testBit]
theorem rr_ub7 (y : Int32) : xx_ush y 12 &&& (1 : Int32) = (y >>> ((12 : Int32) &&& 31)) &&& (1 : Int32) := by
  refine bb_ext (bb_all ?_)
  simp [bb_or, bb_and, bb_xor, bb_shl, bb_shr, bb_ush, bb_n0, bb_n1, bb_n2, bb_n3, bb_n4, bb_n5, bb_n6, bb_n7, bb_n8, bb_n9, bb_n10, bb_n11, bb_n12, bb_n13, bb_n14, bb_n15, bb_n16, bb_n17, bb_n18, bb_n19, bb_n20, bb_n21, bb_n22, bb_n23, bb_n24, bb_n25, bb_n26, bb_n27, bb_n28, bb_n29, bb_n30, bb_n31, bb_m0, bb_m1, bb_m2, bb_m3, bb_m4, bb_m5, bb_m6, bb_m7, bb_m8, bb_m9, bb_m10, bb_m11, bb_m12, bb_m13, bb_m14, bb_m15, bb_m16, bb_m17, bb_m18, bb_m19, bb_m20, bb_m21, bb_m22, bb_m23, bb_m24, bb_m25, bb_m26, bb_m27, bb_m28, bb_m29, bb_m30, bb_m31, bb_l0, bb_l1, bb_l3, bb_l7, bb_l15, bb_l31, bb_l63, bb_l127, bb_l255, bb_l1023, bb_l4095, bb_l1048575, bb_l33550463, bb_l1044480, bb_g4096, bb_g1, bb_g2, Nat.testBit]
theorem rr_ub8 (y : Int32) : xx_ush y 5 &&& (63 : Int32) = (y >>> ((5 : Int32) &&& 31)) &&& (63 : Int32) := by
  refine bb_ext (bb_all ?_)
  simp [bb_or, bb_and, bb_xor, bb_shl, bb_shr, bb_ush, bb_n0, bb_n1, bb_n2, bb_n3, bb_n4, bb_n5, bb_n6, bb_n7, bb_n8, bb_n9, bb_n10, bb_n11, bb_n12, bb_n13, bb_n14, bb_n15, bb_n16, bb_n17, bb_n18, bb_n19, bb_n20, bb_n21, bb_n22, bb_n23, bb_n24, bb_n25, bb_n26, bb_n27, bb_n28, bb_n29, bb_n30, bb_n31, bb_m0, bb_m1, bb_m2, bb_m3, bb_m4, bb_m5, bb_m6, bb_m7, bb_m8, bb_m9, bb_m10, bb_m11, bb_m12, bb_m13, bb_m14, bb_m15, bb_m16, bb_m17, bb_m18, bb_m19, bb_m20, bb_m21, bb_m22, bb_m23, bb_m24, bb_m25, bb_m26, bb_m27, bb_m28, bb_m29, bb_m30, bb_m31, bb_l0, bb_l1, bb_l3, bb_l7, bb_l15, bb_l31, bb_l63, bb_l127, bb_l255, bb_l1023, bb_l4095, bb_l1048575, bb_l33550463, bb_l1044480, bb_g4096, bb_g1, bb_g2, Nat.testBit]
theorem rr_ub9 (y : Int32) : xx_ush y 1 &&& (15 : Int32) = (y >>> ((1 : Int32) &&& 31)) &&& (15 : Int32) := by
  refine bb_ext (bb_all ?_)
  simp [bb_or, bb_and, bb_xor, bb_shl, bb_shr, bb_ush, bb_n0, bb_n1, bb_n2, bb_n3, bb_n4, bb_n5, bb_n6, bb_n7, bb_n8, bb_n9, bb_n10, bb_n11, bb_n12, bb_n13, bb_n14, bb_n15, bb_n16, bb_n17, bb_n18, bb_n19, bb_n20, bb_n21, bb_n22, bb_n23, bb_n24, bb_n25, bb_n26, bb_n27, bb_n28, bb_n29, bb_n30, bb_n31, bb_m0, bb_m1, bb_m2, bb_m3, bb_m4, bb_m5, bb_m6, bb_m7, bb_m8, bb_m9, bb_m10, bb_m11, bb_m12, bb_m13, bb_m14, bb_m15, bb_m16, bb_m17, bb_m18, bb_m19, bb_m20, bb_m21, bb_m22, bb_m23, bb_m24, bb_m25, bb_m26, bb_m27, bb_m28, bb_m29, bb_m30, bb_m31, bb_l0, bb_l1, bb_l3, bb_l7, bb_l15, bb_l31, bb_l63, bb_l127, bb_l255, bb_l1023, bb_l4095, bb_l1048575, bb_l33550463, bb_l1044480, bb_g4096, bb_g1, bb_g2, Nat.testBit]
theorem rr_mended (u : zz_S) (k x y : Int32) : zf_Mender_mended u k x y = some (rr_mdv k x y, u) := by
  unfold zf_Mender_mended rr_mdv
  by_cases c0 : k = 0
  · rw [if_pos c0, if_pos c0]
  rw [if_neg c0, if_neg c0]
  by_cases c1 : k = 1
  · rw [if_pos c1, if_pos c1]
  rw [if_neg c1, if_neg c1]
  by_cases c2 : k = 2
  · rw [if_pos c2, if_pos c2]
  rw [if_neg c2, if_neg c2]
  by_cases c3 : k = 3
  · rw [if_pos c3, if_pos c3, zf_Mender_asInStore, zf_Mender_bits, rr_b2s, zf_Mender_bits, rr_b2s, rr_b2s, show ((1 : Int32) <<< ((7 : Int32) &&& 31)) - (1 : Int32) = 127 by decide, show ((1 : Int32) <<< ((5 : Int32) &&& 31)) - (1 : Int32) = 31 by decide, rr_ub1, rr_ub2, ← Int32.or_assoc]
  rw [if_neg c3, if_neg c3]
  by_cases c4 : k = 4
  · rw [if_pos c4, if_pos c4, zf_Mender_asInJump, zf_Mender_bits, rr_b2s, zf_Mender_bits, rr_b2s, zf_Mender_bits, rr_b2s, zf_Mender_bits, rr_b2s, rr_b2s, show ((1 : Int32) <<< ((1 : Int32) &&& 31)) - (1 : Int32) = 1 by decide, show ((1 : Int32) <<< ((10 : Int32) &&& 31)) - (1 : Int32) = 1023 by decide, show ((1 : Int32) <<< ((8 : Int32) &&& 31)) - (1 : Int32) = 255 by decide, rr_ub3, rr_ub4, rr_ub5, rr_ub6, ← Int32.or_assoc, ← Int32.or_assoc, ← Int32.or_assoc]
  rw [if_neg c4, if_neg c4, zf_Mender_asInBranch, zf_Mender_bits, rr_b2s, zf_Mender_bits, rr_b2s, zf_Mender_bits, rr_b2s, zf_Mender_bits, rr_b2s, rr_b2s, show ((1 : Int32) <<< ((1 : Int32) &&& 31)) - (1 : Int32) = 1 by decide, show ((1 : Int32) <<< ((6 : Int32) &&& 31)) - (1 : Int32) = 63 by decide, show ((1 : Int32) <<< ((4 : Int32) &&& 31)) - (1 : Int32) = 15 by decide, rr_ub7, rr_ub8, rr_ub9, rr_ub5, ← Int32.or_assoc, ← Int32.or_assoc, ← Int32.or_assoc]
/-- how far a place may reach -/
def rr_inB (d L : Int32) : Bool := decide (d &&& 1 = 0) && (!(decide (d < -L)) && !(decide (L ≤ d)))
def rr_rB (k d : Int32) : Bool := if k = 4 then rr_inB d 1048576 else if k = 5 then rr_inB d 4096 else true
def rr_diB (k : Int32) : Bool := decide (k = 4) || decide (k = 5)
theorem rr_isD (u : zz_S) (k : Int32) : zf_Mender_isDistance u k = some (rr_bi (rr_diB k), u) := by
  unfold zf_Mender_isDistance rr_diB
  by_cases c : k = 4
  · rw [if_pos c, decide_eq_true c, zf_Mender_isDistance_b10, zf_Mender_isDistance_b15, rr_nb1]; rfl
  · rw [if_neg c, decide_eq_false c]
    by_cases c5 : k = 5
    · rw [if_pos c5, decide_eq_true c5, zf_Mender_isDistance_b10, zf_Mender_isDistance_b15, rr_nb1]; rfl
    · rw [if_neg c5, decide_eq_false c5, zf_Mender_isDistance_b15, rr_nb0]; rfl
theorem rr_inZ (u : zz_S) (d L : Int32) : zf_Mender_reaches_b22 u d L = some (rr_bi (rr_inB d L), u) := by
  simp only [zf_Mender_reaches_b22, zf_Mender_reaches_b44, zf_Mender_reaches_b45, rr_nb0, rr_nb1, rr_inB]
  by_cases a : d &&& 1 = 0 <;> by_cases b : d < -L <;> by_cases c : L ≤ d <;> simp [a, b, c, rr_bi]
theorem rr_rch (u : zz_S) (k d : Int32) : zf_Mender_reaches u k d = some (rr_bi (rr_rB k d), u) := by
  unfold zf_Mender_reaches
  rw [rr_isD, rr_b2s, rr_inZ, rr_inZ, rr_nb1]
  unfold rr_rB rr_diB
  by_cases c : k = 4
  · rw [if_neg (by rw [decide_eq_true c, Bool.true_or]; decide), if_pos c, if_pos c]
  · rw [if_neg c, if_neg c, decide_eq_false c]
    by_cases c5 : k = 5
    · rw [if_pos c5, decide_eq_true c5, if_neg (by decide)]
    · rw [if_neg c5, decide_eq_false c5, if_pos (by decide)]; rfl
theorem rr_inQ {α : Type} (d L M : Int32) (hLM : M.toInt + 2 = L.toInt) (hO : ∀ x : Int32, x.toInt = M.toInt + 1 → ¬ x &&& 1 = 0) (A B : α) : (if (d - d / (2 : Int32) * (2 : Int32)) = 0 then (if d < -L then A else (if d ≤ M then B else A)) else A) = if rr_inB d L = true then B else A := by
  have e := rr_modk d 2 (Or.inr (Or.inl rfl))
  rw [show (2 : Int32) - 1 = 1 from by decide] at e
  unfold rr_inB
  by_cases c : d &&& 1 = 0
  · rw [if_pos (e.mpr c)]
    have e2 : d ≤ M ↔ ¬ L ≤ d := by
      rw [Int32.le_iff_toInt_le, Int32.le_iff_toInt_le]
      have : ¬ d.toInt = M.toInt + 1 := fun z => hO d z c
      omega
    by_cases c1 : d < -L <;> by_cases c2 : L ≤ d <;> simp [c, c1, c2, e2]
  · rw [if_neg (fun z => c (e.mp z))]
    simp [c]
