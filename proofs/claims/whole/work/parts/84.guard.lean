/-! guarded words on both sides -/
def rr_gf (f : Nat → Int32) (a c : Nat) (b : Int32) : Nat → Int32 := fun i => if a ≤ 4 * i ∧ 4 * i < a + c then b else f i
theorem rr_gf0 (f : Nat → Int32) (a : Nat) (b : Int32) : rr_gf f a 0 b = f := by
  funext i
  have h : ¬ (a ≤ 4 * i ∧ 4 * i < a + 0) := by omega
  simp only [rr_gf, h, if_false]
theorem rr_gfS (f : Nat → Int32) (a k : Nat) (b : Int32) (h4 : a % 4 = 0) : va_up (rr_gf f a (4 * k) b) ((a + 4 * k) / 4) b = rr_gf f a (4 * (k + 1)) b := by
  funext i
  simp only [va_up, rr_gf]
  by_cases h : i = (a + 4 * k) / 4
  · rw [if_pos h, if_pos (by omega)]
  · rw [if_neg h]
    by_cases h2 : a ≤ 4 * i ∧ 4 * i < a + 4 * k
    · rw [if_pos h2, if_pos (by omega)]
    · rw [if_neg h2, if_neg (by omega)]
theorem rr_guardl (u : zz_S) (a N : Nat) (b : Int32) (hb : vp_nar .boolean b = b) (h4 : a % 4 = 0) (hac : a + 4 * N ≤ 4096) : ∀ (d k n : Nat), k + d = N → zf_Memory_guard_b3 (n + d + 1) (u.1, va_up u.2.1 1 (rr_gf (u.2.1 1) a (4 * k) b), u.2.2) (nI a) (nI (4 * N)) b (nI (4 * k)) = some (u.1, va_up u.2.1 1 (rr_gf (u.2.1 1) a (4 * N) b), u.2.2) := by
  intro d
  induction d with
  | zero =>
    intro k n h
    have e : k = N := by omega
    subst e
    rw [zf_Memory_guard_b3, if_pos (nI_le (Nat.le_refl _) (by omega))]
  | succ d ih =>
    intro k n h
    rw [zf_Memory_guard_b3, if_neg (nI_ge (by omega) (by omega)), nI_add, rr_holds, rr_hoN (by omega)]
    simp only [xx_b2, rr_bit, show ¬ (1 : Int32) = 0 from by decide, if_false]
    rw [rr_sh2 (by omega), rr_as (by omega) (by decide), Option.bind_some]
    simp only [xx_nm, rr_upS, rr_upU, zf_Memory_guard_b32]
    rw [hb, rr_gfS _ _ _ _ h4, show (4 : Int32) = nI 4 from rfl, nI_add]
    exact ih (k + 1) n (by omega)
theorem rr_guard (u : zz_S) (a N : Nat) (b : Int32) (hb : vp_nar .boolean b = b) (h4 : a % 4 = 0) (hac : a + 4 * N ≤ 4096) : zf_Memory_guard u (nI a) (nI (4 * N)) b = some (u.1, va_up u.2.1 1 (rr_gf (u.2.1 1) a (4 * N) b), u.2.2) := by
  have h := rr_guardl u a N b hb h4 hac N 0 (4999 - N) (by omega)
  rw [show 4999 - N + N + 1 = xx_fu by unfold xx_fu; omega, show 4 * 0 = 0 from rfl, rr_gf0, rr_upI] at h
  exact h
theorem rs_seal : ll_s_seal rr_Rel := by
  intro u w hR
  obtain ⟨hM, hRg, hF, hT, hS, φ, ms, S, r, Z, G, hG, hE⟩ := hR
  unfold zf_Loader_seal qf_Model_seal
  by_cases hs : u.1 0 = 0
  · have hw : w.1 2 = 0 := hS.1.trans hs
    have e := rr_guard (va_up u.1 0 1, u.2) 0 128 1 rr_nb1 (by decide) (by decide)
    simp only [hs, if_true, xx_nm]
    rw [show (0 : Int32) = nI 0 from rfl, show (512 : Int32) = nI (4 * 128) from rfl, e]
    refine ⟨1, _, (va_up (va_up w.1 0 0) 2 1, w.2), rfl, ?_, hM, hRg, hF, hT, ⟨rfl, Or.inr rfl⟩, φ, ms, S, r, Z, G, ?_, hE⟩
    · show (if w.1 2 = 0 then _ else _) = _
      rw [hw]
      rfl
    · intro i hi
      obtain ⟨g1, g2⟩ := hG i hi
      show (rr_gf (u.2.1 1) 0 512 1 i = 0 ∨ rr_gf (u.2.1 1) 0 512 1 i = 1) ∧ (rr_gf (u.2.1 1) 0 512 1 i = 1 ↔ (i < 128 ∧ (1 : Int32) = 1) ∨ _)
      unfold rr_gf
      by_cases h : i < 128
      · rw [if_pos (by omega)]
        exact ⟨Or.inr rfl, fun _ => Or.inl ⟨h, rfl⟩, fun _ => rfl⟩
      · rw [if_neg (by omega)]
        refine ⟨g1, g2.trans ⟨fun z => ?_, fun z => ?_⟩⟩
        · rcases z with z | z
          · exact absurd z.1 h
          · exact Or.inr z
        · rcases z with z | z
          · exact absurd z.1 h
          · exact Or.inr z
  · have h1 : u.1 0 = 1 := hS.2.resolve_left hs
    have hw : w.1 2 = 1 := hS.1.trans h1
    simp only [hs, if_false, xx_nm]
    refine ⟨0, u, (va_up (va_up w.1 0 0) 2 1, w.2), rfl, ?_, hM, hRg, hF, hT, ⟨?_, hS.2⟩, φ, ms, S, r, Z, G, hG, hE⟩
    · show (if w.1 2 = 0 then _ else _) = _
      rw [hw]
      rfl
    · show (1 : Int32) = u.1 0
      exact h1.symm
def rr_in (ms : List Nat) (r G : Nat → Nat) (a m : Nat) : Bool := decide (m ∈ ms ∧ 512 + 16 * r m ≤ a ∧ a < 512 + 16 * r m + G m)
theorem rr_guardedl {w : qm_S} {ms : List Nat} {r Z G : Nat → Nat} (hL : rr_L w ms r Z G) {a : Nat} (ha : a < 4096) : ∀ (d k n : Nat) (acc : Bool), k + d = 12 → qf_Model_guarded_b29 (n + d + 1) w (nI a) (rr_bi acc) (nI k) = some (rr_bi (acc || (List.range' k d).any (rr_in ms r G a)), w) := by
  intro d
  induction d with
  | zero =>
    intro k n acc h
    have e : k = 12 := by omega
    subst e
    rw [qf_Model_guarded_b29, if_pos (show (12 : Int32) ≤ nI 12 from nI_le (a := 12) (Nat.le_refl _) (by decide))]
    cases acc <;> simp [rr_bi, rr_nb0, rr_nb1]
  | succ d ih =>
    intro k n acc h
    rw [qf_Model_guarded_b29, if_neg (show ¬ (12 : Int32) ≤ nI k from nI_ge (b := 12) (by omega) (by omega))]
    rw [List.range'_succ, List.any_cons]
    have hy : ∀ y : Bool, qf_Model_guarded_b80 (qf_Model_guarded_b29 (n + (d + 1))) w (nI a) (nI k) (rr_bi y) = some (rr_bi (y || (List.range' (k + 1) d).any (rr_in ms r G a)), w) := fun y => by
      show qf_Model_guarded_b29 (n + d + 1) w (nI a) (rr_bi y) (nI k + 1) = _
      rw [nI_1]
      exact ih (k + 1) n y (by omega)
    cases acc
    · rw [if_pos rr_bif, rr_ag (by omega) (by decide), Option.bind_some]
      by_cases hm : k ∈ ms
      · obtain ⟨q1, q2, q3, q4, q5, q6, q7, q8, q9⟩ := hL.2.2.2 k hm
        rw [((hL.1 k).mp hm).2, if_neg (by decide), rr_ag (by omega) (by decide), Option.bind_some, q7]
        by_cases c1 : a < 512 + 16 * r k
        · rw [if_pos (nI_lt c1 (by omega))]
          rw [show rr_in ms r G a k = false from decide_eq_false (fun z => by omega)]
          exact hy false
        · rw [if_neg (nI_nlt (by omega) (by omega)), Option.bind_some, rr_ag (by omega) (by decide), Option.bind_some, q9, nI_add]
          by_cases c2 : 512 + 16 * r k + G k ≤ a
          · rw [if_pos (nI_le c2 (by omega))]
            rw [show rr_in ms r G a k = false from decide_eq_false (fun z => by omega)]
            exact hy false
          · rw [if_neg (nI_ge (by omega) (by omega))]
            rw [show rr_in ms r G a k = true from decide_eq_true ⟨hm, by omega, by omega⟩]
            exact hy true
      · have h0 : w.2 6 k = 0 := (hL.2.1 k (by omega)).resolve_right (fun z => hm ((hL.1 k).mpr ⟨by omega, z⟩))
        rw [h0, if_pos rfl, show rr_in ms r G a k = false from decide_eq_false (fun z => hm z.1)]
        exact hy false
    · rw [if_neg (by decide)]
      exact hy true
theorem rr_guarded {u : zz_S} {w : qm_S} {ms : List Nat} {r Z G : Nat → Nat} (hS : rr_S u w) (hG : rr_G u ms r G) (hL : rr_L w ms r Z G) {a : Nat} (ha : a < 4096) : qf_Model_guarded w (nI a) = some (u.2.1 1 (a / 4), w) := by
  obtain ⟨g1, g2⟩ := hG (a / 4) (by omega)
  unfold qf_Model_guarded
  rw [if_neg (nI_pos (by omega)), if_pos (show nI a < 4096 from nI_lt (b := 4096) ha (by decide))]
  by_cases h5 : a < 512
  · rw [if_neg (show ¬ (512 : Int32) ≤ nI a from nI_ge (b := 512) h5 (by decide)), hS.1]
    congr 2
    rcases hS.2 with e | e
    · rw [e]
      refine (g1.resolve_right (fun z => ?_)).symm
      rcases g2.mp z with ⟨-, y⟩ | ⟨m, -, y1, -⟩
      · rw [e] at y; exact absurd y (by decide)
      · omega
    · rw [e]
      exact (g2.mpr (Or.inl ⟨by omega, e⟩)).symm
  · rw [if_pos (show (512 : Int32) ≤ nI a from nI_le (a := 512) (by omega) (by omega))]
    have e := rr_guardedl hL ha 12 0 (4999 - 12) false (by omega)
    show qf_Model_guarded_b29 xx_fu w (nI a) 0 0 = _
    refine e.trans ?_
    congr 2
    cases hA : (List.range' 0 12).any (rr_in ms r G a)
    · refine (g1.resolve_right (fun z => ?_)).symm
      rcases g2.mp z with ⟨y, -⟩ | ⟨m, hm, y1, y2⟩
      · omega
      · obtain ⟨q1, q2, q3, q4, q5, q6, q7, q8, q9⟩ := hL.2.2.2 m hm
        have hm12 := ((hL.1 m).mp hm).1
        rw [List.any_eq_false] at hA
        exact hA m (List.mem_range'_1.mpr ⟨by omega, by omega⟩) (decide_eq_true ⟨hm, by omega, by omega⟩)
    · obtain ⟨m, -, hm⟩ := List.any_eq_true.mp hA
      obtain ⟨y0, y1, y2⟩ := of_decide_eq_true hm
      obtain ⟨q1, q2, q3, q4, q5, q6, q7, q8, q9⟩ := hL.2.2.2 m y0
      exact (g2.mpr (Or.inr ⟨m, y0, by omega, by omega⟩)).symm
theorem rr_isGuarded (u : zz_S) {a : Nat} (ha : a < 4096) (hg : u.2.1 1 (a / 4) = 0 ∨ u.2.1 1 (a / 4) = 1) : zf_Memory_isGuarded u (nI a) = some (u.2.1 1 (a / 4), u) := by
  simp only [zf_Memory_isGuarded, rr_holds, rr_hoN ha, xx_b2, rr_bit, show ¬ (1 : Int32) = 0 from by decide, if_false, rr_sh2 ha]
  rw [rr_ag (by omega) (by decide), Option.bind_some]
  rcases hg with e | e <;> rw [e]
  · rw [if_pos rfl, zf_Memory_isGuarded_b23, zf_Memory_isGuarded_b24, rr_nb0]
  · rw [if_neg (by decide), zf_Memory_isGuarded_b24, rr_nb1]
theorem rs_isProtected : ll_s_isProtected rr_Rel := by
  intro u w x hR
  have h' := rr_thrown 0 hR
  obtain ⟨hM, hRg, hF, hT, hS, φ, ms, S, r, Z, G, hG, hL, hE⟩ := hR
  unfold zf_Loader_isProtected qf_Model_isProtected
  cases hb : rr_hoB x
  · refine ⟨0, u, (va_up w.1 0 0, w.2), ?_, ?_, h'⟩
    · simp only [zf_Memory_isGuarded, rr_holds, hb, xx_b2, rr_bif, if_true, zf_Memory_isGuarded_b23, zf_Memory_isGuarded_b24, rr_nb0]
    · simp only [xx_nm, qf_Model_guarded]
      by_cases c : x < 0
      · rw [if_pos c, qf_Model_guarded_b11, rr_nb0]; exact congrArg (fun z => some (z, _)) rr_nb0
      · have c2 : ¬ x < 4096 := fun z => by
          have c3 : ¬ (4096 : Int32) ≤ x := Int32.not_le.mpr z
          simp [rr_hoB, c, c3] at hb
        rw [if_neg c, if_neg c2, qf_Model_guarded_b11, rr_nb0]; exact congrArg (fun z => some (z, _)) rr_nb0
  · obtain ⟨a, ha, rfl⟩ := rr_ho hb
    have g1 := (hG (a / 4) (by omega)).1
    have e : vp_nar .boolean (u.2.1 1 (a / 4)) = u.2.1 1 (a / 4) := by rcases g1 with e | e <;> rw [e] <;> decide
    refine ⟨u.2.1 1 (a / 4), u, (va_up w.1 0 0, w.2), ?_, ?_, h'⟩
    · rw [rr_isGuarded u ha g1]
      show some (vp_nar .boolean (u.2.1 1 (a / 4)), u) = _
      rw [e]
    · simp only [xx_nm]
      rw [rr_guarded (w := (va_up w.1 0 0, w.2)) hS hG hL ha]
      show some (vp_nar .boolean (u.2.1 1 (a / 4)), _) = _
      rw [e]
