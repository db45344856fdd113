/-! parts of words -/
def rr_ns (n s : Nat) : Prop := (n = 4 ∧ s = 0) ∨ (n = 2 ∧ (s = 0 ∨ s = 2)) ∨ (n = 1 ∧ (s = 0 ∨ s = 1 ∨ s = 2 ∨ s = 3))
def rr_mo (n : Nat) : Int32 := if nI n = (4 : Int32) then (-1 : Int32) else ((1 : Int32) <<< (((8 : Int32) * nI n) &&& 31)) - (1 : Int32)
theorem rr_maskOf (u : zz_S) (n : Nat) : zf_Memory_maskOf u (nI n) = some (rr_mo n, u) := by
  unfold zf_Memory_maskOf rr_mo
  by_cases h : nI n = (4 : Int32)
  · rw [if_pos h, if_pos h]; rfl
  · rw [if_neg h, if_neg h]; rfl
theorem rr_maskb {n s : Nat} (h : rr_ns n s) : ∀ t, t < 32 → bb_t (rr_mo n <<< (((8 : Int32) * nI s) &&& 31)) t = decide (8 * s ≤ t ∧ t < 8 * (s + n)) := by
  rcases h with ⟨rfl, rfl⟩ | ⟨rfl, rfl | rfl⟩ | ⟨rfl, rfl | rfl | rfl | rfl⟩ <;> decide +kernel
theorem rr_masku {n s : Nat} (h : rr_ns n s) : ∀ t, t < 32 → bb_t (rr_mo n) t = decide (t < 8 * n) := by
  rcases h with ⟨rfl, rfl⟩ | ⟨rfl, rfl | rfl⟩ | ⟨rfl, rfl | rfl | rfl | rfl⟩ <;> decide +kernel
theorem rr_nsB {n s : Nat} (h : rr_ns n s) : s + n ≤ 4 ∧ 0 < n := by
  rcases h with ⟨rfl, rfl⟩ | ⟨rfl, rfl | rfl⟩ | ⟨rfl, rfl | rfl | rfl | rfl⟩ <;> decide
/-- a part read: its bits -/
theorem rr_partb {n s : Nat} (h : rr_ns n s) (W : Int32) (t : Nat) (ht : t < 32) : bb_t ((xx_ush W ((8 : Int32) * nI s)) &&& rr_mo n) t = (decide (t < 8 * n) && bb_t W (8 * s + t)) := by
  have hb := rr_nsB h
  rw [bb_and, bb_ush, show (8 : Int32) * nI s = nI (8 * s) from pk_mul 8 s, bb_mI _ (by omega), rr_masku h t ht, Bool.and_comm]
/-- a part written: its bytes -/
theorem rr_putb {n s : Nat} (h : rr_ns n s) (W v : Int32) (j : Nat) (hj : j < 4) : rr_by ((W &&& ((rr_mo n <<< (((8 : Int32) * nI s) &&& 31)) ^^^ (-1 : Int32))) ||| ((v <<< (((8 : Int32) * nI s) &&& 31)) &&& (rr_mo n <<< (((8 : Int32) * nI s) &&& 31)))) j = if s ≤ j ∧ j < s + n then rr_by v (j - s) else rr_by W j := by
  have hb := rr_nsB h
  refine bb_ext (fun i hi => ?_)
  rw [rr_byt _ j hj, bb_or, bb_and, bb_xor, bb_and, bb_g1]
  by_cases h8 : i < 8
  · have h32 : 8 * j + i < 32 := by omega
    rw [rr_maskb h _ h32, bb_shl, show (8 : Int32) * nI s = nI (8 * s) from pk_mul 8 s, bb_nI _ (by omega)]
    by_cases c : s ≤ j ∧ j < s + n
    · have c1 : 8 * s ≤ 8 * j + i ∧ 8 * j + i < 8 * (s + n) := by omega
      have c2 : 8 * s ≤ 8 * j + i := c1.1
      rw [if_pos c, rr_byt _ (j - s) (by omega), decide_eq_true c1, decide_eq_true c2, decide_eq_true h32, decide_eq_true h8, show 8 * j + i - 8 * s = 8 * (j - s) + i by omega]
      simp
    · have c1 : ¬ (8 * s ≤ 8 * j + i ∧ 8 * j + i < 8 * (s + n)) := by omega
      rw [if_neg c, rr_byt _ j hj, decide_eq_false c1, decide_eq_true h32, decide_eq_true h8]
      simp
  · by_cases c : s ≤ j ∧ j < s + n
    · rw [if_pos c, rr_byt _ (j - s) (by omega)]
      simp [h8]
    · rw [if_neg c, rr_byt _ j hj]
      simp [h8]
theorem rr_sh3 {a : Nat} (h : a < 4096) (u : zz_S) : zf_Memory_shiftOf u (nI a) = some ((8 : Int32) * nI (a % 4), u) := by
  unfold zf_Memory_shiftOf
  rw [show (3 : Int32) = nI 3 from rfl, rr_and3 (by omega)]
theorem rr_partZ (u : zz_S) {a : Nat} (n : Nat) (h : a < 4096) : zf_Memory_partAt u (nI a) (nI n) = some ((xx_ush (u.2.1 0 (a / 4)) ((8 : Int32) * nI (a % 4))) &&& rr_mo n, u) := by
  unfold zf_Memory_partAt
  rw [rr_holds, rr_hoN h]
  simp only [xx_b2, rr_bit, show ¬ (1 : Int32) = 0 from by decide, if_false, rr_sh2 h]
  rw [rr_ag (by omega) (by decide), Option.bind_some, rr_sh3 h]
  simp only
  rw [rr_maskOf]
  rfl
theorem rr_putPZ (u : zz_S) {a : Nat} (n : Nat) (v : Int32) (h : a < 4096) : zf_Memory_putPart u (nI a) (nI n) v = some (u.1, va_up u.2.1 0 (va_up (u.2.1 0) (a / 4) ((u.2.1 0 (a / 4) &&& ((rr_mo n <<< (((8 : Int32) * nI (a % 4)) &&& 31)) ^^^ (-1 : Int32))) ||| ((v <<< (((8 : Int32) * nI (a % 4)) &&& 31)) &&& (rr_mo n <<< (((8 : Int32) * nI (a % 4)) &&& 31))))), u.2.2) := by
  unfold zf_Memory_putPart
  rw [rr_holds, rr_hoN h]
  simp only [xx_b2, rr_bit, show ¬ (1 : Int32) = 0 from by decide, if_false, rr_sh2 h]
  rw [rr_sh3 h]
  simp only
  rw [rr_maskOf]
  simp only [xx_nm]
  rw [rr_ag (by omega) (by decide), Option.bind_some, rr_as (by omega) (by decide), Option.bind_some]
theorem rr_MputP {u : zz_S} {w : qm_S} (hM : rr_M u w) {a n : Nat} (v : Int32) (h : a < 4096) (hns : rr_ns n (a % 4)) (x y : Nat → Int32) : rr_M (x, va_up u.2.1 0 (va_up (u.2.1 0) (a / 4) ((u.2.1 0 (a / 4) &&& ((rr_mo n <<< (((8 : Int32) * nI (a % 4)) &&& 31)) ^^^ (-1 : Int32))) ||| ((v <<< (((8 : Int32) * nI (a % 4)) &&& 31)) &&& (rr_mo n <<< (((8 : Int32) * nI (a % 4)) &&& 31))))), u.2.2) (y, va_up w.2 1 (rr_putf (w.2 1) a v n)) := by
  have hb := rr_nsB hns
  intro i hi
  show rr_putf (w.2 1) a v n i = rr_by (va_up (u.2.1 0) (a / 4) _ (i / 4)) (i % 4)
  by_cases e : i / 4 = a / 4
  · rw [e, rr_upS, rr_putb hns _ _ _ (Nat.mod_lt _ (by decide))]
    unfold rr_putf
    by_cases c : a ≤ i ∧ i < a + n
    · rw [if_pos c, if_pos (by omega)]
      congr 1
      omega
    · rw [if_neg c, if_neg (by omega), hM i hi, e]
  · rw [rr_upN _ _ e]
    unfold rr_putf
    rw [if_neg (by omega), hM i hi]
theorem rr_i8 (x : Int32) (i : Nat) (hi : i < 32) : bb_t x.toInt8.toInt32 i = bb_t x (if i < 8 then i else 7) := by
  unfold bb_t
  rw [Int8.toBitVec_toInt32, Int32.toBitVec_toInt8, BitVec.getLsbD_signExtend]
  by_cases h : i < 8
  · simp [h, hi, BitVec.getElem_signExtend]
  · simp [h, hi, BitVec.msb_eq_getLsbD_last, BitVec.getElem_signExtend]
theorem rr_i16 (x : Int32) (i : Nat) (hi : i < 32) : bb_t x.toInt16.toInt32 i = bb_t x (if i < 16 then i else 15) := by
  unfold bb_t
  rw [Int16.toBitVec_toInt32, Int32.toBitVec_toInt16, BitVec.getLsbD_signExtend]
  by_cases h : i < 16
  · simp [h, hi, BitVec.getElem_signExtend]
  · simp [h, hi, BitVec.msb_eq_getLsbD_last, BitVec.getElem_signExtend]
