/-! memory on both sides -/
theorem rr_upS {α : Type} (f : Nat → α) (k : Nat) (v : α) : va_up f k v k = v := by simp [va_up]
theorem rr_upN {α : Type} (f : Nat → α) {k j : Nat} (v : α) (h : j ≠ k) : va_up f k v j = f j := by simp [va_up, h]
theorem rr_upU {α : Type} (f : Nat → α) (k : Nat) (x y : α) : va_up (va_up f k x) k y = va_up f k y := by
  funext j
  by_cases h : j = k <;> simp [va_up, h]
theorem rr_upI {α : Type} (f : Nat → α) (k : Nat) : va_up f k (f k) = f := by
  funext j
  by_cases h : j = k <;> simp [va_up, h]
def rr_hoB (x : Int32) : Bool := !(decide (x < 0)) && !(decide ((4096 : Int32) ≤ x))
theorem rr_holds (u : zz_S) (x : Int32) : zf_Memory_holds u x = some (rr_bi (rr_hoB x), u) := by
  simp only [zf_Memory_holds, zf_Memory_holds_b15, zf_Memory_holds_b16, rr_nb0, rr_nb1, rr_hoB]
  by_cases a : x < 0 <;> by_cases b : (4096 : Int32) ≤ x <;> simp [a, b, rr_bi]
theorem rr_hoN {a : Nat} (h : a < 4096) : rr_hoB (nI a) = true := by
  have h1 : ¬ nI a < 0 := nI_pos (by omega)
  have h2 : ¬ (4096 : Int32) ≤ nI a := nI_ge (b := 4096) h (by decide)
  simp [rr_hoB, h1, h2]
theorem rr_ho {x : Int32} (h : rr_hoB x = true) : ∃ a, a < 4096 ∧ x = nI a := by
  simp only [rr_hoB, Bool.and_eq_true, Bool.not_eq_true', decide_eq_false_iff_not] at h
  rcases pk_ix x (n := 4096) (by decide) with h1 | h1 | h1
  · exact absurd h1 h.1
  · exact absurd h1 h.2
  · exact h1
theorem rr_sh2 {a : Nat} (h : a < 4096) : nI a >>> ((2 : Int32) &&& 31) = nI (a / 4) := pk_shrN (by omega) _ 2 (by decide)
theorem rr_wordZ (u : zz_S) {a : Nat} (h : a < 4096) : zf_Memory_wordAt u (nI a) = some (u.2.1 0 (a / 4), u) := by
  simp only [zf_Memory_wordAt, rr_holds, rr_hoN h, xx_b2, rr_bit, show ¬ (1 : Int32) = 0 from by decide, if_false, rr_sh2 h, zf_Memory_wordAt_b20]
  rw [rr_ag (by omega) (by decide)]
  rfl
theorem rr_putZ (u : zz_S) {a : Nat} (v : Int32) (h : a < 4096) : zf_Memory_putWord u (nI a) v = some (u.1, va_up u.2.1 0 (va_up (u.2.1 0) (a / 4) v), u.2.2) := by
  simp only [zf_Memory_putWord, rr_holds, rr_hoN h, xx_b2, rr_bit, show ¬ (1 : Int32) = 0 from by decide, if_false, rr_sh2 h, zf_Memory_putWord_b17]
  rw [rr_as (by omega) (by decide)]
  rfl
theorem rr_wordQ {u : zz_S} {w : qm_S} (hM : rr_M u w) {a : Nat} (h : a < 4096) (h4 : a % 4 = 0) : qf_Model_wordAt w (nI a) = some (u.2.1 0 (a / 4), w) := by
  unfold qf_Model_wordAt
  rw [show (1 : Int32) = nI 1 from rfl, show (2 : Int32) = nI 2 from rfl, show (3 : Int32) = nI 3 from rfl, nI_add, nI_add, nI_add, rr_ag (by omega) (by decide), Option.bind_some, rr_ag (by omega) (by decide), Option.bind_some, rr_ag (by omega) (by decide), Option.bind_some, rr_ag (by omega) (by decide), Option.bind_some]
  rw [hM a (by omega), hM (a + 1) (by omega), hM (a + 2) (by omega), hM (a + 3) (by omega), show (a + 1) / 4 = a / 4 by omega, show (a + 2) / 4 = a / 4 by omega, show (a + 3) / 4 = a / 4 by omega, h4, show (a + 1) % 4 = 1 by omega, show (a + 2) % 4 = 2 by omega, show (a + 3) % 4 = 3 by omega, rr_word]
def rr_putf (f : Nat → Int32) (a : Nat) (v : Int32) (c : Nat) : Nat → Int32 := fun i => if a ≤ i ∧ i < a + c then rr_by v (i - a) else f i
theorem rr_putf0 (f : Nat → Int32) (a : Nat) (v : Int32) : rr_putf f a v 0 = f := by
  funext i
  have h : ¬ (a ≤ i ∧ i < a + 0) := by omega
  simp only [rr_putf, h, if_false]
theorem rr_putfS (f : Nat → Int32) (a : Nat) (v : Int32) (c : Nat) : va_up (rr_putf f a v c) (a + c) (rr_by v c) = rr_putf f a v (c + 1) := by
  funext i
  simp only [va_up, rr_putf]
  by_cases h : i = a + c
  · rw [if_pos h, if_pos (by omega)]
    congr 1
    omega
  · rw [if_neg h]
    by_cases h2 : a ≤ i ∧ i < a + c
    · rw [if_pos h2, if_pos (by omega)]
    · rw [if_neg h2, if_neg (by omega)]
theorem rr_putl (w : qm_S) (a c : Nat) (v : Int32) (hac : a + c ≤ 4096) : ∀ (d k n : Nat), k + d = c → qf_Model_put_b3 (n + d + 1) (w.1, va_up w.2 1 (rr_putf (w.2 1) a v k)) (nI a) v (nI c) (nI k) = some (w.1, va_up w.2 1 (rr_putf (w.2 1) a v c)) := by
  intro d
  induction d with
  | zero =>
    intro k n h
    have e : k = c := by omega
    subst e
    rw [qf_Model_put_b3, if_pos (nI_le (Nat.le_refl _) (by omega))]
  | succ d ih =>
    intro k n h
    rw [qf_Model_put_b3, if_neg (nI_ge (by omega) (by omega)), nI_add, rr_as (by omega) (by decide), Option.bind_some]
    simp only [xx_nm, rr_upS, rr_upU]
    rw [show (v >>> (((8 : Int32) * nI k) &&& 31)) &&& (255 : Int32) = rr_by v k from rfl, rr_putfS, nI_1]
    exact ih (k + 1) n (by omega)
theorem rr_put (w : qm_S) (a c : Nat) (v : Int32) (hac : a + c ≤ 4096) (hc : c ≤ 4) : qf_Model_put w (nI a) v (nI c) = some (w.1, va_up w.2 1 (rr_putf (w.2 1) a v c)) := by
  have h := rr_putl w a c v hac c 0 (4999 - c) (by omega)
  rw [show 4999 - c + c + 1 = xx_fu by unfold xx_fu; omega, rr_putf0, rr_upI] at h
  exact h
/-- a word put on both sides -/
theorem rr_Mput {u : zz_S} {w : qm_S} (hM : rr_M u w) {a : Nat} (v : Int32) (h : a < 4096) (h4 : a % 4 = 0) (x : Nat → Int32) (y : Nat → Int32) : rr_M (x, va_up u.2.1 0 (va_up (u.2.1 0) (a / 4) v), u.2.2) (y, va_up w.2 1 (rr_putf (w.2 1) a v 4)) := by
  intro i hi
  show rr_putf (w.2 1) a v 4 i = rr_by (va_up (u.2.1 0) (a / 4) v (i / 4)) (i % 4)
  unfold rr_putf
  by_cases h1 : a ≤ i ∧ i < a + 4
  · rw [if_pos h1, show i / 4 = a / 4 by omega, rr_upS, show i - a = i % 4 by omega]
  · rw [if_neg h1, rr_upN _ _ (by omega), hM i hi]
theorem rr_woN {x l : Int32} {n : Nat} (hl : l = nI n) (hn : n < 2 ^ 31) (h : rr_woB x l = true) : ∃ a, a < n ∧ a % 4 = 0 ∧ x = nI a := by
  subst hl
  simp only [rr_woB, Bool.and_eq_true, Bool.not_eq_true', decide_eq_false_iff_not, decide_eq_true_eq] at h
  rcases pk_ix x (n := n) hn with h1 | h1 | ⟨j, hj, rfl⟩
  · exact absurd h1 h.1
  · exact absurd h1 h.2.1
  · have e := h.2.2
    rw [show (3 : Int32) = nI 3 from rfl, rr_and3 (by omega), ← nI_0, nI_eq (by omega) (by omega)] at e
    exact ⟨j, hj, e, rfl⟩
theorem rs_peek : ll_s_peek rr_Rel := by
  intro u w a hR
  unfold zp_Loader_peek qf_Model_peek
  simp only [rr_isWordBelow, rr_isWord, xx_b2]
  cases hb : rr_woB a 4096
  · refine ⟨0, (va_up w.1 0 1, w.2), 1, (va_up w.1 0 1, w.2), rfl, rfl, fun Po Px h0 h1 => ?_⟩
    exact ⟨_, _, rfl, fun _ => h1 u rfl hR, fun h => absurd rfl h⟩
  · obtain ⟨j, hj, hj4, rfl⟩ := rr_woN (n := 4096) rfl (by decide) hb
    refine ⟨u.2.1 0 (j / 4), (va_up w.1 0 0, w.2), 0, (va_up w.1 0 0, w.2), ?_, rfl, fun Po Px h0 h1 => ?_⟩
    · have e := rr_wordQ (w := (va_up w.1 0 0, w.2)) hR.1 hj hj4
      simp only [rr_bit, show ¬ (1 : Int32) = 0 from by decide, if_false, qf_Model_peek_b16, xx_nm, rr_upS, if_true, e]
      rfl
    · exact ⟨_, _, rfl, fun h => absurd h (by decide), fun _ => ⟨_, _, rr_wordZ u hj, h0 u rfl hR⟩⟩
theorem rs_poke : ll_s_poke rr_Rel := by
  intro u w a b hR
  unfold zp_Loader_poke qf_Model_poke
  simp only [rr_isWordBelow, rr_isWord, xx_b2]
  cases hb : rr_woB a 512
  · refine ⟨(va_up w.1 0 1, w.2), 1, (va_up w.1 0 1, w.2), rfl, rfl, fun Po Px h0 h1 h2 => ?_⟩
    exact ⟨_, _, rfl, fun _ => h1 u rfl hR, fun h => absurd rfl h⟩
  · obtain ⟨j, hj, hj4, rfl⟩ := rr_woN (n := 512) rfl (by decide) hb
    obtain ⟨hM, hRg, hF, hT, hS, hE⟩ := hR
    by_cases hs : u.1 0 = 0
    · refine ⟨(va_up w.1 0 0, va_up w.2 1 (rr_putf (w.2 1) j b 4)), 0, (va_up w.1 0 0, va_up w.2 1 (rr_putf (w.2 1) j b 4)), ?_, rfl, fun Po Px h0 h1 h2 => ?_⟩
      · have e := rr_put (va_up w.1 0 0, w.2) j 4 b (by omega) (by decide)
        simp only [rr_bit, show ¬ (1 : Int32) = 0 from by decide, if_false, hS.1, hs, if_true, qf_Model_poke_b27, xx_nm, rr_upS]
        rw [show (4 : Int32) = nI 4 from rfl, e]
        rfl
      · exact ⟨_, _, rfl, fun h => absurd h (by decide), fun _ => ⟨fun _ => ⟨_, rr_putZ u b (by omega), h0 _ rfl ⟨rr_Mput hM b (by omega) hj4 _ _, hRg, hF, hT, hS, hE⟩⟩, fun h => absurd hs h⟩⟩
    · refine ⟨(va_up w.1 0 2, w.2), 2, (va_up w.1 0 2, w.2), ?_, rfl, fun Po Px h0 h1 h2 => ?_⟩
      · simp only [rr_bit, show ¬ (1 : Int32) = 0 from by decide, if_false, hS.1, hs, qf_Model_poke_b27, xx_nm, rr_upS, show ¬ (2 : Int32) = 0 from by decide]
        rfl
      · exact ⟨_, _, rfl, fun h => absurd h (by decide), fun _ => ⟨fun h => absurd h hs, fun _ => h2 u rfl ⟨hM, hRg, hF, hT, hS, hE⟩⟩⟩
theorem rs_register : ll_s_register rr_Rel := by
  intro u w a hR
  have h' := rr_thrown 0 hR
  unfold zf_Loader_register qf_Model_register
  rcases pk_ix a (n := 32) (by decide) with h1 | h1 | ⟨j, hj, rfl⟩
  · simp only [zf_Machine_registerAfterRun, h1, if_true, xx_nm]
    exact ⟨_, _, _, rfl, rfl, h'⟩
  · have h2 : ¬ a < 0 := fun h => absurd (Int32.lt_of_le_of_lt h1 h) (by decide)
    have h3 : ¬ a ≤ 31 := fun h => absurd (Int32.le_trans h1 h) (by decide)
    have h4 : (32 : Int32) ≤ a := h1
    simp only [zf_Machine_registerAfterRun, h2, h3, h4, if_true, if_false, xx_nm]
    exact ⟨_, _, _, rfl, rfl, h'⟩
  · have h2 : ¬ nI j < 0 := nI_pos (by omega)
    have h3 : nI j ≤ 31 := nI_le (b := 31) (by omega) (by decide)
    have h4 : ¬ (32 : Int32) ≤ nI j := nI_ge (b := 32) hj (by decide)
    simp only [zf_Machine_registerAfterRun, h2, h3, h4, if_true, if_false, xx_nm]
    rw [rr_ag hj (by decide), rr_ag hj (by decide)]
    exact ⟨_, _, _, rfl, congrArg (fun z => some (z, _)) (hR.2.1.1 j hj), h'⟩
