/-! the pure layer. Bits of an int -/
def bb_t (x : Int32) (i : Nat) : Bool := x.toBitVec.getLsbD i
theorem bb_ext {x y : Int32} (h : ∀ i, i < 32 → bb_t x i = bb_t y i) : x = y := Int32.toBitVec_inj.mp (BitVec.eq_of_getLsbD_eq (fun i hi => h i hi))
theorem bb_all {P : Nat → Prop} (h : P 0 ∧ P 1 ∧ P 2 ∧ P 3 ∧ P 4 ∧ P 5 ∧ P 6 ∧ P 7 ∧ P 8 ∧ P 9 ∧ P 10 ∧ P 11 ∧ P 12 ∧ P 13 ∧ P 14 ∧ P 15 ∧ P 16 ∧ P 17 ∧ P 18 ∧ P 19 ∧ P 20 ∧ P 21 ∧ P 22 ∧ P 23 ∧ P 24 ∧ P 25 ∧ P 26 ∧ P 27 ∧ P 28 ∧ P 29 ∧ P 30 ∧ P 31) : ∀ i, i < 32 → P i := by
  obtain ⟨h0, h1, h2, h3, h4, h5, h6, h7, h8, h9, h10, h11, h12, h13, h14, h15, h16, h17, h18, h19, h20, h21, h22, h23, h24, h25, h26, h27, h28, h29, h30, h31⟩ := h
  intro i hi
  match i, hi with
  | 0, _ => exact h0
  | 1, _ => exact h1
  | 2, _ => exact h2
  | 3, _ => exact h3
  | 4, _ => exact h4
  | 5, _ => exact h5
  | 6, _ => exact h6
  | 7, _ => exact h7
  | 8, _ => exact h8
  | 9, _ => exact h9
  | 10, _ => exact h10
  | 11, _ => exact h11
  | 12, _ => exact h12
  | 13, _ => exact h13
  | 14, _ => exact h14
  | 15, _ => exact h15
  | 16, _ => exact h16
  | 17, _ => exact h17
  | 18, _ => exact h18
  | 19, _ => exact h19
  | 20, _ => exact h20
  | 21, _ => exact h21
  | 22, _ => exact h22
  | 23, _ => exact h23
  | 24, _ => exact h24
  | 25, _ => exact h25
  | 26, _ => exact h26
  | 27, _ => exact h27
  | 28, _ => exact h28
  | 29, _ => exact h29
  | 30, _ => exact h30
  | 31, _ => exact h31
  | n + 32, h => exact absurd h (by omega)
theorem bb_or (x y : Int32) (i : Nat) : bb_t (x ||| y) i = (bb_t x i || bb_t y i) := by unfold bb_t; rw [Int32.toBitVec_or, BitVec.getLsbD_or]
theorem bb_and (x y : Int32) (i : Nat) : bb_t (x &&& y) i = (bb_t x i && bb_t y i) := by unfold bb_t; rw [Int32.toBitVec_and, BitVec.getLsbD_and]
theorem bb_xor (x y : Int32) (i : Nat) : bb_t (x ^^^ y) i = (bb_t x i ^^ bb_t y i) := by unfold bb_t; rw [Int32.toBitVec_xor, BitVec.getLsbD_xor]
theorem bb_big {x : Int32} {i : Nat} (h : 32 ≤ i) : bb_t x i = false := BitVec.getLsbD_of_ge _ _ h
/-- what a shift by y shifts -/
def bb_n (y : Int32) : Nat := (y.toBitVec.smod 32).toNat
theorem bb_nI : ∀ n, n < 32 → bb_n (nI n &&& 31) = n := by decide +kernel
theorem bb_shl (x y : Int32) (i : Nat) : bb_t (x <<< y) i = (decide (i < 32) && (decide (bb_n y ≤ i) && bb_t x (i - bb_n y))) := by
  unfold bb_t
  rw [Int32.toBitVec_shiftLeft]
  show (x.toBitVec <<< bb_n y).getLsbD i = _
  rw [BitVec.getLsbD_shiftLeft]
  by_cases h : i < bb_n y
  · simp [h, Nat.not_le.mpr h]
  · simp [h, Nat.not_lt.mp h]
theorem bb_shr (x y : Int32) (i : Nat) : bb_t (x >>> y) i = (decide (i < 32) && bb_t x (if bb_n y + i < 32 then bb_n y + i else 31)) := by
  unfold bb_t
  rw [Int32.toBitVec_shiftRight]
  show (x.toBitVec.sshiftRight (bb_n y)).getLsbD i = _
  rw [BitVec.getLsbD_sshiftRight, BitVec.msb_eq_getLsbD_last]
  by_cases h : i < 32
  · by_cases h2 : bb_n y + i < 32
    · simp [h, h2, Nat.not_le.mpr h]
    · simp [h, h2, Nat.not_le.mpr h]
  · simp [h, Nat.not_lt.mp h]
def bb_m (y : Int32) : Nat := ((y.toUInt32 &&& Int32.toUInt32 31).toBitVec % 32).toNat
theorem bb_mI : ∀ n, n < 32 → bb_m (nI n) = n := by decide +kernel
theorem bb_ush (x y : Int32) (i : Nat) : bb_t (xx_ush x y) i = bb_t x (bb_m y + i) := by
  show (x.toUInt32 >>> (y.toUInt32 &&& Int32.toUInt32 31)).toBitVec.getLsbD i = x.toUInt32.toBitVec.getLsbD (bb_m y + i)
  rw [UInt32.toBitVec_shiftRight]
  show (x.toUInt32.toBitVec >>> bb_m y).getLsbD i = _
  rw [BitVec.getLsbD_ushiftRight]
theorem bb_n0 : bb_n ((0 : Int32) &&& 31) = 0 := by decide +kernel
theorem bb_m0 : bb_m (0 : Int32) = 0 := by decide +kernel
theorem bb_n1 : bb_n ((1 : Int32) &&& 31) = 1 := by decide +kernel
theorem bb_m1 : bb_m (1 : Int32) = 1 := by decide +kernel
theorem bb_n2 : bb_n ((2 : Int32) &&& 31) = 2 := by decide +kernel
theorem bb_m2 : bb_m (2 : Int32) = 2 := by decide +kernel
theorem bb_n3 : bb_n ((3 : Int32) &&& 31) = 3 := by decide +kernel
theorem bb_m3 : bb_m (3 : Int32) = 3 := by decide +kernel
theorem bb_n4 : bb_n ((4 : Int32) &&& 31) = 4 := by decide +kernel
theorem bb_m4 : bb_m (4 : Int32) = 4 := by decide +kernel
theorem bb_n5 : bb_n ((5 : Int32) &&& 31) = 5 := by decide +kernel
theorem bb_m5 : bb_m (5 : Int32) = 5 := by decide +kernel
theorem bb_n6 : bb_n ((6 : Int32) &&& 31) = 6 := by decide +kernel
theorem bb_m6 : bb_m (6 : Int32) = 6 := by decide +kernel
theorem bb_n7 : bb_n ((7 : Int32) &&& 31) = 7 := by decide +kernel
theorem bb_m7 : bb_m (7 : Int32) = 7 := by decide +kernel
theorem bb_n8 : bb_n ((8 : Int32) &&& 31) = 8 := by decide +kernel
theorem bb_m8 : bb_m (8 : Int32) = 8 := by decide +kernel
theorem bb_n9 : bb_n ((9 : Int32) &&& 31) = 9 := by decide +kernel
theorem bb_m9 : bb_m (9 : Int32) = 9 := by decide +kernel
theorem bb_n10 : bb_n ((10 : Int32) &&& 31) = 10 := by decide +kernel
theorem bb_m10 : bb_m (10 : Int32) = 10 := by decide +kernel
theorem bb_n11 : bb_n ((11 : Int32) &&& 31) = 11 := by decide +kernel
theorem bb_m11 : bb_m (11 : Int32) = 11 := by decide +kernel
theorem bb_n12 : bb_n ((12 : Int32) &&& 31) = 12 := by decide +kernel
theorem bb_m12 : bb_m (12 : Int32) = 12 := by decide +kernel
theorem bb_n13 : bb_n ((13 : Int32) &&& 31) = 13 := by decide +kernel
theorem bb_m13 : bb_m (13 : Int32) = 13 := by decide +kernel
theorem bb_n14 : bb_n ((14 : Int32) &&& 31) = 14 := by decide +kernel
theorem bb_m14 : bb_m (14 : Int32) = 14 := by decide +kernel
theorem bb_n15 : bb_n ((15 : Int32) &&& 31) = 15 := by decide +kernel
theorem bb_m15 : bb_m (15 : Int32) = 15 := by decide +kernel
theorem bb_n16 : bb_n ((16 : Int32) &&& 31) = 16 := by decide +kernel
theorem bb_m16 : bb_m (16 : Int32) = 16 := by decide +kernel
theorem bb_n17 : bb_n ((17 : Int32) &&& 31) = 17 := by decide +kernel
theorem bb_m17 : bb_m (17 : Int32) = 17 := by decide +kernel
theorem bb_n18 : bb_n ((18 : Int32) &&& 31) = 18 := by decide +kernel
theorem bb_m18 : bb_m (18 : Int32) = 18 := by decide +kernel
theorem bb_n19 : bb_n ((19 : Int32) &&& 31) = 19 := by decide +kernel
theorem bb_m19 : bb_m (19 : Int32) = 19 := by decide +kernel
theorem bb_n20 : bb_n ((20 : Int32) &&& 31) = 20 := by decide +kernel
theorem bb_m20 : bb_m (20 : Int32) = 20 := by decide +kernel
theorem bb_n21 : bb_n ((21 : Int32) &&& 31) = 21 := by decide +kernel
theorem bb_m21 : bb_m (21 : Int32) = 21 := by decide +kernel
theorem bb_n22 : bb_n ((22 : Int32) &&& 31) = 22 := by decide +kernel
theorem bb_m22 : bb_m (22 : Int32) = 22 := by decide +kernel
theorem bb_n23 : bb_n ((23 : Int32) &&& 31) = 23 := by decide +kernel
theorem bb_m23 : bb_m (23 : Int32) = 23 := by decide +kernel
theorem bb_n24 : bb_n ((24 : Int32) &&& 31) = 24 := by decide +kernel
theorem bb_m24 : bb_m (24 : Int32) = 24 := by decide +kernel
theorem bb_n25 : bb_n ((25 : Int32) &&& 31) = 25 := by decide +kernel
theorem bb_m25 : bb_m (25 : Int32) = 25 := by decide +kernel
theorem bb_n26 : bb_n ((26 : Int32) &&& 31) = 26 := by decide +kernel
theorem bb_m26 : bb_m (26 : Int32) = 26 := by decide +kernel
theorem bb_n27 : bb_n ((27 : Int32) &&& 31) = 27 := by decide +kernel
theorem bb_m27 : bb_m (27 : Int32) = 27 := by decide +kernel
theorem bb_n28 : bb_n ((28 : Int32) &&& 31) = 28 := by decide +kernel
theorem bb_m28 : bb_m (28 : Int32) = 28 := by decide +kernel
theorem bb_n29 : bb_n ((29 : Int32) &&& 31) = 29 := by decide +kernel
theorem bb_m29 : bb_m (29 : Int32) = 29 := by decide +kernel
theorem bb_n30 : bb_n ((30 : Int32) &&& 31) = 30 := by decide +kernel
theorem bb_m30 : bb_m (30 : Int32) = 30 := by decide +kernel
theorem bb_n31 : bb_n ((31 : Int32) &&& 31) = 31 := by decide +kernel
theorem bb_m31 : bb_m (31 : Int32) = 31 := by decide +kernel
theorem bb_l0 : ∀ i, bb_t (0 : Int32) i = (0 : Nat).testBit i := by
  intro i
  by_cases h : i < 32
  · exact (by decide +kernel : ∀ i, i < 32 → bb_t (0 : Int32) i = (0 : Nat).testBit i) i h
  · rw [bb_big (Nat.not_lt.mp h)]
    exact (Nat.testBit_lt_two_pow (Nat.lt_of_lt_of_le (by decide : (0 : Nat) < 2 ^ 32) (Nat.pow_le_pow_right (by decide) (Nat.not_lt.mp h)))).symm
theorem bb_l1 : ∀ i, bb_t (1 : Int32) i = (1 : Nat).testBit i := by
  intro i
  by_cases h : i < 32
  · exact (by decide +kernel : ∀ i, i < 32 → bb_t (1 : Int32) i = (1 : Nat).testBit i) i h
  · rw [bb_big (Nat.not_lt.mp h)]
    exact (Nat.testBit_lt_two_pow (Nat.lt_of_lt_of_le (by decide : (1 : Nat) < 2 ^ 32) (Nat.pow_le_pow_right (by decide) (Nat.not_lt.mp h)))).symm
theorem bb_l3 : ∀ i, bb_t (3 : Int32) i = (3 : Nat).testBit i := by
  intro i
  by_cases h : i < 32
  · exact (by decide +kernel : ∀ i, i < 32 → bb_t (3 : Int32) i = (3 : Nat).testBit i) i h
  · rw [bb_big (Nat.not_lt.mp h)]
    exact (Nat.testBit_lt_two_pow (Nat.lt_of_lt_of_le (by decide : (3 : Nat) < 2 ^ 32) (Nat.pow_le_pow_right (by decide) (Nat.not_lt.mp h)))).symm
theorem bb_l7 : ∀ i, bb_t (7 : Int32) i = (7 : Nat).testBit i := by
  intro i
  by_cases h : i < 32
  · exact (by decide +kernel : ∀ i, i < 32 → bb_t (7 : Int32) i = (7 : Nat).testBit i) i h
  · rw [bb_big (Nat.not_lt.mp h)]
    exact (Nat.testBit_lt_two_pow (Nat.lt_of_lt_of_le (by decide : (7 : Nat) < 2 ^ 32) (Nat.pow_le_pow_right (by decide) (Nat.not_lt.mp h)))).symm
theorem bb_l15 : ∀ i, bb_t (15 : Int32) i = (15 : Nat).testBit i := by
  intro i
  by_cases h : i < 32
  · exact (by decide +kernel : ∀ i, i < 32 → bb_t (15 : Int32) i = (15 : Nat).testBit i) i h
  · rw [bb_big (Nat.not_lt.mp h)]
    exact (Nat.testBit_lt_two_pow (Nat.lt_of_lt_of_le (by decide : (15 : Nat) < 2 ^ 32) (Nat.pow_le_pow_right (by decide) (Nat.not_lt.mp h)))).symm
theorem bb_l31 : ∀ i, bb_t (31 : Int32) i = (31 : Nat).testBit i := by
  intro i
  by_cases h : i < 32
  · exact (by decide +kernel : ∀ i, i < 32 → bb_t (31 : Int32) i = (31 : Nat).testBit i) i h
  · rw [bb_big (Nat.not_lt.mp h)]
    exact (Nat.testBit_lt_two_pow (Nat.lt_of_lt_of_le (by decide : (31 : Nat) < 2 ^ 32) (Nat.pow_le_pow_right (by decide) (Nat.not_lt.mp h)))).symm
theorem bb_l63 : ∀ i, bb_t (63 : Int32) i = (63 : Nat).testBit i := by
  intro i
  by_cases h : i < 32
  · exact (by decide +kernel : ∀ i, i < 32 → bb_t (63 : Int32) i = (63 : Nat).testBit i) i h
  · rw [bb_big (Nat.not_lt.mp h)]
    exact (Nat.testBit_lt_two_pow (Nat.lt_of_lt_of_le (by decide : (63 : Nat) < 2 ^ 32) (Nat.pow_le_pow_right (by decide) (Nat.not_lt.mp h)))).symm
theorem bb_l127 : ∀ i, bb_t (127 : Int32) i = (127 : Nat).testBit i := by
  intro i
  by_cases h : i < 32
  · exact (by decide +kernel : ∀ i, i < 32 → bb_t (127 : Int32) i = (127 : Nat).testBit i) i h
  · rw [bb_big (Nat.not_lt.mp h)]
    exact (Nat.testBit_lt_two_pow (Nat.lt_of_lt_of_le (by decide : (127 : Nat) < 2 ^ 32) (Nat.pow_le_pow_right (by decide) (Nat.not_lt.mp h)))).symm
theorem bb_l255 : ∀ i, bb_t (255 : Int32) i = (255 : Nat).testBit i := by
  intro i
  by_cases h : i < 32
  · exact (by decide +kernel : ∀ i, i < 32 → bb_t (255 : Int32) i = (255 : Nat).testBit i) i h
  · rw [bb_big (Nat.not_lt.mp h)]
    exact (Nat.testBit_lt_two_pow (Nat.lt_of_lt_of_le (by decide : (255 : Nat) < 2 ^ 32) (Nat.pow_le_pow_right (by decide) (Nat.not_lt.mp h)))).symm
theorem bb_l1023 : ∀ i, bb_t (1023 : Int32) i = (1023 : Nat).testBit i := by
  intro i
  by_cases h : i < 32
  · exact (by decide +kernel : ∀ i, i < 32 → bb_t (1023 : Int32) i = (1023 : Nat).testBit i) i h
  · rw [bb_big (Nat.not_lt.mp h)]
    exact (Nat.testBit_lt_two_pow (Nat.lt_of_lt_of_le (by decide : (1023 : Nat) < 2 ^ 32) (Nat.pow_le_pow_right (by decide) (Nat.not_lt.mp h)))).symm
theorem bb_l4095 : ∀ i, bb_t (4095 : Int32) i = (4095 : Nat).testBit i := by
  intro i
  by_cases h : i < 32
  · exact (by decide +kernel : ∀ i, i < 32 → bb_t (4095 : Int32) i = (4095 : Nat).testBit i) i h
  · rw [bb_big (Nat.not_lt.mp h)]
    exact (Nat.testBit_lt_two_pow (Nat.lt_of_lt_of_le (by decide : (4095 : Nat) < 2 ^ 32) (Nat.pow_le_pow_right (by decide) (Nat.not_lt.mp h)))).symm
theorem bb_l1048575 : ∀ i, bb_t (1048575 : Int32) i = (1048575 : Nat).testBit i := by
  intro i
  by_cases h : i < 32
  · exact (by decide +kernel : ∀ i, i < 32 → bb_t (1048575 : Int32) i = (1048575 : Nat).testBit i) i h
  · rw [bb_big (Nat.not_lt.mp h)]
    exact (Nat.testBit_lt_two_pow (Nat.lt_of_lt_of_le (by decide : (1048575 : Nat) < 2 ^ 32) (Nat.pow_le_pow_right (by decide) (Nat.not_lt.mp h)))).symm
theorem bb_l33550463 : ∀ i, bb_t (33550463 : Int32) i = (33550463 : Nat).testBit i := by
  intro i
  by_cases h : i < 32
  · exact (by decide +kernel : ∀ i, i < 32 → bb_t (33550463 : Int32) i = (33550463 : Nat).testBit i) i h
  · rw [bb_big (Nat.not_lt.mp h)]
    exact (Nat.testBit_lt_two_pow (Nat.lt_of_lt_of_le (by decide : (33550463 : Nat) < 2 ^ 32) (Nat.pow_le_pow_right (by decide) (Nat.not_lt.mp h)))).symm
theorem bb_l1044480 : ∀ i, bb_t (1044480 : Int32) i = (1044480 : Nat).testBit i := by
  intro i
  by_cases h : i < 32
  · exact (by decide +kernel : ∀ i, i < 32 → bb_t (1044480 : Int32) i = (1044480 : Nat).testBit i) i h
  · rw [bb_big (Nat.not_lt.mp h)]
    exact (Nat.testBit_lt_two_pow (Nat.lt_of_lt_of_le (by decide : (1044480 : Nat) < 2 ^ 32) (Nat.pow_le_pow_right (by decide) (Nat.not_lt.mp h)))).symm
theorem bb_g4096 : ∀ i, bb_t (-4096 : Int32) i = (decide (i < 32) && decide (12 ≤ i)) := by
  intro i
  by_cases h : i < 32
  · exact (by decide +kernel : ∀ i, i < 32 → bb_t (-4096 : Int32) i = (decide (i < 32) && decide (12 ≤ i))) i h
  · rw [bb_big (Nat.not_lt.mp h)]; simp [h]
theorem bb_g1 : ∀ i, bb_t (-1 : Int32) i = (decide (i < 32) && decide (0 ≤ i)) := by
  intro i
  by_cases h : i < 32
  · exact (by decide +kernel : ∀ i, i < 32 → bb_t (-1 : Int32) i = (decide (i < 32) && decide (0 ≤ i))) i h
  · rw [bb_big (Nat.not_lt.mp h)]; simp [h]
theorem bb_g2 : ∀ i, bb_t (-2 : Int32) i = (decide (i < 32) && decide (1 ≤ i)) := by
  intro i
  by_cases h : i < 32
  · exact (by decide +kernel : ∀ i, i < 32 → bb_t (-2 : Int32) i = (decide (i < 32) && decide (1 ≤ i))) i h
  · rw [bb_big (Nat.not_lt.mp h)]; simp [h]
/-- byte j of a word -/
def rr_by (x : Int32) (j : Nat) : Int32 := (x >>> (((8 : Int32) * nI j) &&& 31)) &&& (255 : Int32)
theorem rr_by0 (x : Int32) : rr_by x 0 = x &&& 255 := by
  refine bb_ext (bb_all ?_)
  simp [rr_by, show ((8 : Int32) * nI 0) &&& 31 = (0 : Int32) &&& 31 from by decide, bb_or, bb_and, bb_xor, bb_shl, bb_shr, bb_ush, bb_n0, bb_n1, bb_n2, bb_n3, bb_n4, bb_n5, bb_n6, bb_n7, bb_n8, bb_n9, bb_n10, bb_n11, bb_n12, bb_n13, bb_n14, bb_n15, bb_n16, bb_n17, bb_n18, bb_n19, bb_n20, bb_n21, bb_n22, bb_n23, bb_n24, bb_n25, bb_n26, bb_n27, bb_n28, bb_n29, bb_n30, bb_n31, bb_m0, bb_m1, bb_m2, bb_m3, bb_m4, bb_m5, bb_m6, bb_m7, bb_m8, bb_m9, bb_m10, bb_m11, bb_m12, bb_m13, bb_m14, bb_m15, bb_m16, bb_m17, bb_m18, bb_m19, bb_m20, bb_m21, bb_m22, bb_m23, bb_m24, bb_m25, bb_m26, bb_m27, bb_m28, bb_m29, bb_m30, bb_m31, bb_l0, bb_l1, bb_l3, bb_l7, bb_l15, bb_l31, bb_l63, bb_l127, bb_l255, bb_l1023, bb_l4095, bb_l1048575, bb_l33550463, bb_l1044480, bb_g4096, bb_g1, bb_g2, Nat.testBit]
theorem rr_word (x : Int32) : (((rr_by x 0 ||| (rr_by x 1 <<< ((8 : Int32) &&& 31))) ||| (rr_by x 2 <<< ((16 : Int32) &&& 31))) ||| (rr_by x 3 <<< ((24 : Int32) &&& 31))) = x := by
  refine bb_ext (bb_all ?_)
  simp [rr_by, show ((8 : Int32) * nI 0) &&& 31 = (0 : Int32) &&& 31 from by decide, show ((8 : Int32) * nI 1) &&& 31 = (8 : Int32) &&& 31 from by decide, show ((8 : Int32) * nI 2) &&& 31 = (16 : Int32) &&& 31 from by decide, show ((8 : Int32) * nI 3) &&& 31 = (24 : Int32) &&& 31 from by decide, bb_or, bb_and, bb_xor, bb_shl, bb_shr, bb_ush, bb_n0, bb_n1, bb_n2, bb_n3, bb_n4, bb_n5, bb_n6, bb_n7, bb_n8, bb_n9, bb_n10, bb_n11, bb_n12, bb_n13, bb_n14, bb_n15, bb_n16, bb_n17, bb_n18, bb_n19, bb_n20, bb_n21, bb_n22, bb_n23, bb_n24, bb_n25, bb_n26, bb_n27, bb_n28, bb_n29, bb_n30, bb_n31, bb_m0, bb_m1, bb_m2, bb_m3, bb_m4, bb_m5, bb_m6, bb_m7, bb_m8, bb_m9, bb_m10, bb_m11, bb_m12, bb_m13, bb_m14, bb_m15, bb_m16, bb_m17, bb_m18, bb_m19, bb_m20, bb_m21, bb_m22, bb_m23, bb_m24, bb_m25, bb_m26, bb_m27, bb_m28, bb_m29, bb_m30, bb_m31, bb_l0, bb_l1, bb_l3, bb_l7, bb_l15, bb_l31, bb_l63, bb_l127, bb_l255, bb_l1023, bb_l4095, bb_l1048575, bb_l33550463, bb_l1044480, bb_g4096, bb_g1, bb_g2, Nat.testBit]
