/-! the tape on both sides -/
def rr_tp (W t : Nat → Int32) (n : Nat) : Prop := (∀ a, a < n → t a = rr_by (W (a / 4)) (a % 4)) ∧ ∀ j, n % 4 ≠ 0 → n % 4 ≤ j → j < 4 → rr_by (W (n / 4)) j = 0
theorem rr_byt (x : Int32) (k : Nat) (hk : k < 4) (i : Nat) : bb_t (rr_by x k) i = (decide (i < 8) && bb_t x (8 * k + i)) := by
  unfold rr_by
  rw [show (8 : Int32) * nI k = nI (8 * k) from pk_mul 8 k, bb_and, bb_shr, bb_nI _ (by omega), bb_l255]
  by_cases h : i < 8
  · rw [if_pos (by omega)]
    have e : Nat.testBit 255 i = true := (by decide : ∀ i, i < 8 → Nat.testBit 255 i = true) i h
    rw [e, decide_eq_true h, decide_eq_true (by omega : i < 32)]
    simp
  · have e : Nat.testBit 255 i = false := Nat.testBit_lt_two_pow (Nat.lt_of_lt_of_le (by decide : 255 < 2 ^ 8) (Nat.pow_le_pow_right (by decide) (Nat.not_lt.mp h)))
    rw [e, decide_eq_false h]
    simp
/-- a byte below, in another place -/
theorem rr_by2 (x : Int32) (k j : Nat) (hk : k < 4) (hj : j < 4) : rr_by (rr_by x k) j = if j = 0 then rr_by x k else 0 := by
  by_cases h : j = 0
  · subst h
    rw [if_pos rfl]
    refine bb_ext (fun i hi => ?_)
    rw [rr_byt _ 0 (by decide), rr_byt _ k hk, rr_byt _ k hk]
    by_cases h8 : i < 8 <;> simp [h8]
  · rw [if_neg h]
    refine bb_ext (fun i hi => ?_)
    rw [rr_byt _ j hj, rr_byt _ k hk, bb_l0]
    by_cases h8 : i < 8
    · have : ¬ (8 * j + i < 8) := by omega
      simp [this]
    · simp [h8]
/-- a byte set above -/
theorem rr_by3 (y x : Int32) (k s j : Nat) (hk : k < 4) (hs : s < 4) (hj : j < 4) : rr_by (y ||| (rr_by x k <<< (((8 : Int32) * nI s) &&& 31))) j = if j = s then rr_by y j ||| rr_by x k else rr_by y j := by
  refine bb_ext (fun i hi => ?_)
  rw [rr_byt _ j hj, bb_or, show (8 : Int32) * nI s = nI (8 * s) from pk_mul 8 s, bb_shl, bb_nI _ (by omega), rr_byt _ k hk]
  by_cases h : j = s
  · subst h
    rw [if_pos rfl, bb_or, rr_byt _ j hj, rr_byt _ k hk, show 8 * j + i - 8 * j = i by omega]
    by_cases h8 : i < 8
    · have h1 : 8 * j + i < 32 := by omega
      have h2 : 8 * j ≤ 8 * j + i := by omega
      simp [h8, h1, h2]
    · simp [h8]
  · rw [if_neg h, rr_byt _ j hj]
    by_cases h8 : i < 8
    · by_cases h9 : s < j
      · have h1 : ¬ (8 * j + i - 8 * s < 8) := by omega
        simp [h8, h1]
      · have h1 : ¬ (8 * s ≤ 8 * j + i) := by omega
        simp [h8, h1]
    · simp [h8]
theorem rr_tpS {W t : Nat → Int32} {n : Nat} (h : rr_tp W t n) (x : Int32) (k : Nat) (hk : k < 4) : rr_tp (va_up W (n / 4) (if n % 4 = 0 then rr_by x k else (W (n / 4) ||| (rr_by x k <<< (((8 : Int32) * nI (n % 4)) &&& 31))))) (va_up t n (rr_by x k)) (n + 1) := by
  have hm : n % 4 < 4 := Nat.mod_lt _ (by decide)
  refine ⟨fun a ha => ?_, fun j h1 h2 h3 => ?_⟩
  · by_cases e : a = n
    · subst e
      rw [rr_upS, rr_upS]
      by_cases h0 : a % 4 = 0
      · rw [if_pos h0, h0, rr_by2 _ _ _ hk (by decide), if_pos rfl]
      · rw [if_neg h0, rr_by3 _ _ _ _ _ hk hm hm, if_pos rfl, h.2 _ h0 (Nat.le_refl _) hm]
        refine bb_ext (fun i _ => ?_)
        rw [bb_or, bb_l0]
        simp
    · rw [rr_upN _ _ e, h.1 a (by omega)]
      by_cases e4 : a / 4 = n / 4
      · rw [e4, rr_upS, if_neg (by omega), rr_by3 _ _ _ _ _ hk hm (Nat.mod_lt _ (by decide)), if_neg (by omega)]
      · rw [rr_upN _ _ e4]
  · rw [show (n + 1) / 4 = n / 4 by omega, rr_upS]
    by_cases h0 : n % 4 = 0
    · rw [if_pos h0, rr_by2 _ _ _ hk h3, if_neg (by omega)]
    · rw [if_neg h0, rr_by3 _ _ _ _ _ hk hm h3, if_neg (by omega)]
      exact h.2 j h0 (by omega) h3
theorem rr_appB (u : zz_S) (x : Int32) (k n : Nat) (hn : n < 1200) (hu : u.1 4 = nI n) : zf_Tape_appendByte u (rr_by x k) = some (va_up u.1 4 (nI (n + 1)), va_up u.2.1 3 (va_up (u.2.1 3) (n / 4) (if n % 4 = 0 then rr_by x k else (u.2.1 3 (n / 4) ||| (rr_by x k <<< (((8 : Int32) * nI (n % 4)) &&& 31))))), u.2.2) := by
  have hm : n % 4 < 4 := Nat.mod_lt _ (by decide)
  unfold zf_Tape_appendByte
  simp only [xx_nm]
  rw [hu, show nI n >>> ((2 : Int32) &&& 31) = nI (n / 4) from pk_shrN (by omega) _ 2 (by decide), if_pos (show nI (n / 4) < 300 from nI_lt (b := 300) (by omega) (by decide)), show (3 : Int32) = nI 3 from rfl, rr_and3 (by omega)]
  have e8 : (8 : Int32) * nI (n % 4) = 0 ↔ n % 4 = 0 := by
    rw [show (8 : Int32) * nI (n % 4) = nI (8 * (n % 4)) from pk_mul 8 _, ← nI_0, nI_eq (by omega) (by decide)]
    omega
  have key : ∀ y : Int32, zf_Tape_appendByte_b50 u (nI (n / 4)) y = some (va_up u.1 4 (nI (n + 1)), va_up u.2.1 3 (va_up (u.2.1 3) (n / 4) y), u.2.2) := fun y => by
    unfold zf_Tape_appendByte_b50
    rw [rr_as (by omega) (by decide), Option.bind_some]
    simp only [xx_nm]
    rw [hu, nI_1]
  by_cases h0 : n % 4 = 0
  · rw [if_pos (e8.mpr h0), if_pos h0]
    exact key _
  · rw [if_neg (fun z => h0 (e8.mp z)), if_neg h0, rr_ag (by omega) (by decide), Option.bind_some]
    exact key _
theorem rr_ushk (x : Int32) (k : Nat) (hk : k < 4) : (xx_ush x ((8 : Int32) * nI k)) &&& (255 : Int32) = rr_by x k := by
  refine bb_ext (fun i hi => ?_)
  rw [rr_byt _ k hk, bb_and, bb_ush, show (8 : Int32) * nI k = nI (8 * k) from pk_mul 8 k, bb_mI _ (by omega), bb_l255]
  by_cases h : i < 8
  · rw [(by decide : ∀ i, i < 8 → Nat.testBit 255 i = true) i h, decide_eq_true h]; simp
  · rw [Nat.testBit_lt_two_pow (Nat.lt_of_lt_of_le (by decide : 255 < 2 ^ 8) (Nat.pow_le_pow_right (by decide) (Nat.not_lt.mp h))), decide_eq_false h]; simp
theorem rr_appl (x : Int32) (c n0 : Nat) (t : Nat → Int32) (hc : c ≤ 4) (hn : n0 + c ≤ 1200) : ∀ (d k n : Nat) (u : zz_S), k + d = c → u.1 4 = nI (n0 + k) → rr_tp (u.2.1 3) (rr_putf t n0 x k) (n0 + k) → ∃ W, zf_Tape_append_b16 (n + d + 1) u x (nI c) (nI k) = some (1, (va_up u.1 4 (nI (n0 + c)), va_up u.2.1 3 W, u.2.2)) ∧ rr_tp W (rr_putf t n0 x c) (n0 + c) := by
  intro d
  induction d with
  | zero =>
    intro k n u h hu ht
    have e : k = c := by omega
    subst e
    refine ⟨u.2.1 3, ?_, ht⟩
    rw [zf_Tape_append_b16, if_pos (nI_le (Nat.le_refl _) (by omega)), rr_nb1, ← hu, rr_upI, rr_upI]
  | succ d ih =>
    intro k n u h hu ht
    have e := rr_appB u x k (n0 + k) (by omega) hu
    have s := rr_tpS ht x k (by omega)
    rw [rr_putfS] at s
    obtain ⟨W, e1, e2⟩ := ih (k + 1) n (va_up u.1 4 (nI (n0 + k + 1)), va_up u.2.1 3 (va_up (u.2.1 3) ((n0 + k) / 4) (if (n0 + k) % 4 = 0 then rr_by x k else (u.2.1 3 ((n0 + k) / 4) ||| (rr_by x k <<< (((8 : Int32) * nI ((n0 + k) % 4)) &&& 31))))), u.2.2) (by omega) rfl s
    refine ⟨W, ?_, e2⟩
    rw [zf_Tape_append_b16, if_neg (nI_ge (by omega) (by omega)), rr_ushk x k (by omega), e, Option.bind_some]
    simp only [xx_nm]
    rw [nI_1]
    refine e1.trans ?_
    rw [rr_upU, rr_upU]
theorem rr_app (u : zz_S) (w : qm_S) (x : Int32) (c n : Nat) (hc : c ≤ 4) (hn : n + c ≤ 1200) (hu : u.1 4 = nI n) (ht : rr_tp (u.2.1 3) (w.2 13) n) : ∃ W, zf_Tape_append u x (nI c) = some (1, (va_up u.1 4 (nI (n + c)), va_up u.2.1 3 W, u.2.2)) ∧ rr_tp W (rr_putf (w.2 13) n x c) (n + c) := by
  obtain ⟨W, e1, e2⟩ := rr_appl x c n (w.2 13) hc hn c 0 (4999 - c) u (by omega) hu (by rw [rr_putf0]; exact ht)
  refine ⟨W, ?_, e2⟩
  unfold zf_Tape_append
  rw [hu, nI_add, if_pos (show nI (n + c) ≤ 1200 from nI_le (b := 1200) hn (by decide))]
  rw [show 4999 - c + c + 1 = xx_fu by unfold xx_fu; omega] at e1
  exact e1
theorem rr_feedl (w : qm_S) (n : Nat) (x : Int32) (hn : n + 4 ≤ 1200) (hw : w.1 15 = nI n) : ∀ (d k f : Nat), k + d = 4 → qf_Model_feed_b21 (f + d + 1) (w.1, va_up w.2 13 (rr_putf (w.2 13) n x k)) x (nI k) = some (nI (n + 4), (va_up w.1 15 (nI (n + 4)), va_up w.2 13 (rr_putf (w.2 13) n x 4))) := by
  intro d
  induction d with
  | zero =>
    intro k f h
    have e : k = 4 := by omega
    subst e
    rw [qf_Model_feed_b21, if_pos (show (4 : Int32) ≤ nI 4 from nI_le (a := 4) (Nat.le_refl _) (by decide))]
    simp only [xx_nm, rr_upS]
    rw [hw, show (4 : Int32) = nI 4 from rfl, nI_add]
  | succ d ih =>
    intro k f h
    rw [qf_Model_feed_b21, if_neg (show ¬ (4 : Int32) ≤ nI k from nI_ge (b := 4) (by omega) (by decide))]
    simp only [hw, nI_add]
    rw [rr_as (by omega) (by decide), Option.bind_some]
    simp only [xx_nm, rr_upS, rr_upU]
    rw [show (x >>> (((8 : Int32) * nI k) &&& 31)) &&& (255 : Int32) = rr_by x k from rfl, rr_putfS, nI_1]
    exact ih (k + 1) f (by omega)
theorem rs_feed : ll_s_feed rr_Rel := by
  intro u w x hR
  have h' := rr_thrown 0 hR
  obtain ⟨hM, hRg, hF, ⟨n, hn, hu, hw, ht⟩, hS, hE⟩ := hR
  unfold zf_Loader_feed qf_Model_feed
  by_cases h : n + 4 ≤ 1200
  · obtain ⟨W, e1, e2⟩ := rr_app u w x 4 n (by decide) h hu ht
    have q := rr_feedl (va_up w.1 0 0, w.2) n x h hw 4 0 4995 rfl
    rw [rr_putf0, rr_upI] at q
    refine ⟨nI (n + 4), (va_up u.1 4 (nI (n + 4)), va_up u.2.1 3 W, u.2.2), (va_up (va_up w.1 0 0) 15 (nI (n + 4)), va_up w.2 13 (rr_putf (w.2 13) n x 4)), ?_, ?_, ?_⟩
    · rw [show (4 : Int32) = nI 4 from rfl, e1]
      rfl
    · simp only [xx_nm]
      rw [if_pos (show va_up w.1 0 0 15 + 4 ≤ 1200 from by
        show w.1 15 + 4 ≤ 1200
        rw [hw, show (4 : Int32) = nI 4 from rfl, nI_add]
        exact nI_le (b := 1200) h (by decide))]
      exact q
    · exact ⟨hM, hRg, hF, ⟨n + 4, h, rfl, rfl, e2⟩, hS, hE⟩
  · have c1 : ¬ (u.1 4 + (4 : Int32) ≤ 1200) := by
      rw [hu, show (4 : Int32) = nI 4 from rfl, nI_add]
      exact nI_ge (a := 1200) (by omega) (by omega)
    refine ⟨-1, u, (va_up w.1 0 0, w.2), ?_, ?_, h'⟩
    · unfold zf_Tape_append
      rw [if_neg c1, rr_nb0]
      rfl
    · simp only [xx_nm]
      rw [if_neg (show ¬ (va_up w.1 0 0 15 + (4 : Int32) ≤ 1200) from by rw [show va_up w.1 0 0 15 = u.1 4 from hw.trans hu.symm]; exact c1)]
theorem rs_feedByte : ll_s_feedByte rr_Rel := by
  intro u w x hR
  have h' := rr_thrown 0 hR
  obtain ⟨hM, hRg, hF, ⟨n, hn, hu, hw, ht⟩, hS, hE⟩ := hR
  unfold zf_Loader_feedByte qf_Model_feedByte
  by_cases h : n + 1 ≤ 1200
  · obtain ⟨W, e1, e2⟩ := rr_app u w x 1 n (by decide) h hu ht
    refine ⟨nI (n + 1), (va_up u.1 4 (nI (n + 1)), va_up u.2.1 3 W, u.2.2), (va_up (va_up w.1 0 0) 15 (nI (n + 1)), va_up w.2 13 (rr_putf (w.2 13) n x 1)), ?_, ?_, ?_⟩
    · rw [show (1 : Int32) = nI 1 from rfl, e1]
      rfl
    · simp only [xx_nm]
      rw [if_neg (show ¬ (va_up w.1 0 0 15 = 1200) from by
        rw [show va_up w.1 0 0 15 = nI n from hw]
        exact fun z => absurd ((nI_eq (b := 1200) (by omega) (by decide)).mp z) (by omega)), show va_up w.1 0 0 15 = nI n from hw, rr_as (by omega) (by decide), Option.bind_some]
      rw [rr_upS, nI_1, ← rr_by0, ← rr_putfS, rr_putf0]
      rfl
    · exact ⟨hM, hRg, hF, ⟨n + 1, h, rfl, rfl, e2⟩, hS, hE⟩
  · have e : n = 1200 := by omega
    subst e
    have c1 : ¬ (u.1 4 + (1 : Int32) ≤ 1200) := by
      rw [hu]
      decide
    refine ⟨-1, u, (va_up w.1 0 0, w.2), ?_, ?_, h'⟩
    · unfold zf_Tape_append
      rw [if_neg c1, rr_nb0]
      rfl
    · simp only [xx_nm]
      rw [if_pos (show va_up w.1 0 0 15 = 1200 from hw)]
