/-! arithmetic of the machine's steps -/
theorem rr_modI (X : Int) (D : Int) (hD : D = 1 ∨ D = 2 ∨ D = 4) : X - X.tdiv D * D = 0 ↔ X % D = 0 := by
  rw [Int.tdiv_eq_ediv]
  rcases hD with rfl | rfl | rfl
  · by_cases h : 0 ≤ X ∨ (1 : Int) ∣ X
    · rw [if_pos h]; omega
    · rw [if_neg h, show Int.sign 1 = 1 from rfl]; omega
  · by_cases h : 0 ≤ X ∨ (2 : Int) ∣ X
    · rw [if_pos h]; omega
    · rw [if_neg h, show Int.sign 2 = 1 from rfl]; omega
  · by_cases h : 0 ≤ X ∨ (4 : Int) ∣ X
    · rw [if_pos h]; omega
    · rw [if_neg h, show Int.sign 4 = 1 from rfl]; omega
theorem rr_modB (X : Int) (D : Int) (hD : D = 1 ∨ D = 2 ∨ D = 4) (h1 : -2147483648 ≤ X) (h2 : X < 2147483648) : -2147483648 ≤ X.tdiv D * D ∧ X.tdiv D * D < 2147483648 ∧ -2147483648 ≤ X - X.tdiv D * D ∧ X - X.tdiv D * D < 2147483648 := by
  rw [Int.tdiv_eq_ediv]
  rcases hD with rfl | rfl | rfl
  · by_cases h : 0 ≤ X ∨ (1 : Int) ∣ X
    · rw [if_pos h]; omega
    · rw [if_neg h, show Int.sign 1 = 1 from rfl]; omega
  · by_cases h : 0 ≤ X ∨ (2 : Int) ∣ X
    · rw [if_pos h]; omega
    · rw [if_neg h, show Int.sign 2 = 1 from rfl]; omega
  · by_cases h : 0 ≤ X ∨ (4 : Int) ∣ X
    · rw [if_pos h]; omega
    · rw [if_neg h, show Int.sign 4 = 1 from rfl]; omega
theorem rr_modk (x d : Int32) (hd : d = 1 ∨ d = 2 ∨ d = 4) : (x - x / d * d = 0) ↔ (x &&& (d - 1)) = 0 := by
  have hD : d.toInt = 1 ∨ d.toInt = 2 ∨ d.toInt = 4 := by
    rcases hd with rfl | rfl | rfl
    · exact Or.inl (by decide)
    · exact Or.inr (Or.inl (by decide))
    · exact Or.inr (Or.inr (by decide))
  have b1 := Int32.le_toInt x
  have b2 := Int32.toInt_lt x
  obtain ⟨c1, c2, c3, c4⟩ := rr_modB x.toInt d.toInt hD (by omega) (by omega)
  have e : (x - x / d * d).toInt = x.toInt - x.toInt.tdiv d.toInt * d.toInt := by
    rw [Int32.toInt_sub, Int32.toInt_mul, Int32.toInt_div_of_ne_right _ _ (by rcases hd with rfl | rfl | rfl <;> decide)]
    rw [Int.bmod_eq_of_le (n := x.toInt.tdiv d.toInt * d.toInt) (by omega) (by omega)]
    exact Int.bmod_eq_of_le (by omega) (by omega)
  rw [← Int32.toInt_inj, e, show (0 : Int32).toInt = 0 from rfl, rr_modI _ _ hD]
  have hx : x.toInt = (x.toBitVec.toNat : Int) ∨ x.toInt = (x.toBitVec.toNat : Int) - 4294967296 := by
    have h := BitVec.toInt_eq_toNat_cond x.toBitVec
    have h2 : x.toInt = x.toBitVec.toInt := rfl
    rw [h2, h]
    split
    · exact Or.inl rfl
    · exact Or.inr (by simp)
  have hn : ∀ k : Nat, k ≤ 2 → d.toInt = (2 : Int) ^ k → (d - 1).toBitVec.toNat = 2 ^ k - 1 → (x.toInt % d.toInt = 0 ↔ x &&& (d - 1) = 0) := fun k hk h1 h2 => by
    rw [pk_and x k h2, h1]
    have hl : x.toBitVec.toNat % 2 ^ k < 2 ^ 31 := Nat.lt_of_lt_of_le (Nat.mod_lt _ (Nat.two_pow_pos k)) (Nat.pow_le_pow_right (by decide) (by omega))
    rw [← nI_0, nI_eq hl (by decide)]
    match k, hk with
    | 0, _ => omega
    | 1, _ => simp only [Nat.pow_one, Int.pow_succ, Int.pow_zero]; omega
    | 2, _ => rw [show (2 : Int) ^ 2 = 4 from rfl, show (2 : Nat) ^ 2 = 4 from rfl]; omega
  rcases hd with rfl | rfl | rfl
  · exact hn 0 (by decide) (by decide) (by decide)
  · exact hn 1 (by decide) (by decide) (by decide)
  · exact hn 2 (by decide) (by decide) (by decide)
theorem rr_mod4x (x : Int32) : (x - x / 4 * 4 = 0) ↔ (x &&& 3) = 0 := rr_modk x 4 (Or.inr (Or.inr rfl))
theorem rr_gmin : ∀ i, bb_t (-2147483648 : Int32) i = decide (i = 31) := by
  intro i
  by_cases h : i < 32
  · exact (by decide +kernel : ∀ i, i < 32 → bb_t (-2147483648 : Int32) i = decide (i = 31)) i h
  · rw [bb_big (Nat.not_lt.mp h), decide_eq_false (by omega)]
theorem rr_minl (x : Int32) (h : bb_t x 31 = false) : x + (-2147483648 : Int32) = x ^^^ (-2147483648 : Int32) := by
  have h1 : x.toBitVec &&& (-2147483648 : Int32).toBitVec = 0#32 := by
    have h2 : x &&& (-2147483648 : Int32) = 0 := bb_ext (fun i _ => by
      rw [bb_and, rr_gmin, bb_l0]
      by_cases e : i = 31
      · rw [e, h]; simp
      · simp [e])
    rw [← Int32.toBitVec_and, h2]
    rfl
  have h3 : x + (-2147483648 : Int32) = x ||| (-2147483648 : Int32) := by
    apply Int32.toBitVec_inj.1
    rw [Int32.toBitVec_add, Int32.toBitVec_or]
    exact BitVec.add_eq_or_of_and_eq_zero _ _ h1
  rw [h3]
  refine bb_ext (fun i _ => ?_)
  rw [bb_or, bb_xor, rr_gmin]
  by_cases e : i = 31
  · rw [e, h]; simp
  · simp [e]
theorem rr_min (x : Int32) : x + (-2147483648 : Int32) = x ^^^ (-2147483648 : Int32) := by
  cases h : bb_t x 31
  · exact rr_minl x h
  · have h1 : bb_t (x ^^^ (-2147483648 : Int32)) 31 = false := by rw [bb_xor, rr_gmin, h]; rfl
    have h2 := rr_minl _ h1
    have h3 : (x ^^^ (-2147483648 : Int32)) ^^^ (-2147483648 : Int32) = x := bb_ext (fun i _ => by
      rw [bb_xor, bb_xor]
      cases bb_t x i <;> cases bb_t (-2147483648 : Int32) i <;> rfl)
    rw [h3] at h2
    rw [← h2, Int32.add_assoc, show (-2147483648 : Int32) + (-2147483648 : Int32) = 0 from by decide, Int32.add_zero]
    rw [h2]
theorem rr_below (u : zz_S) (w : qm_S) (x y : Int32) : ∃ b : Bool, zf_Machine_isBelow u x y = some (rr_bi b, u) ∧ qf_Model_isBelow w x y = some (rr_bi b, w) := by
  unfold zf_Machine_isBelow qf_Model_isBelow
  rw [rr_min, rr_min]
  by_cases h : (y ^^^ (-2147483648 : Int32)) ≤ (x ^^^ (-2147483648 : Int32))
  · refine ⟨false, ?_, ?_⟩
    · rw [if_pos h, zf_Machine_isBelow_b16, rr_nb0]; rfl
    · rw [if_pos h, qf_Model_isBelow_b16, rr_nb0]; rfl
  · refine ⟨true, ?_, ?_⟩
    · rw [if_neg h, zf_Machine_isBelow_b16, rr_nb1]; rfl
    · rw [if_neg h, qf_Model_isBelow_b16, rr_nb1]; rfl
