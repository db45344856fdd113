/-! at -/
theorem rr_srt {w : qm_S} {ms : List Nat} {r Z G : Nat → Nat} (hL : rr_L w ms r Z G) (i j : Nat) (hi : i < ms.length) (hj : j < ms.length) (h : i < j) : r ms[i] + rr_rows (Z ms[i]) ≤ r ms[j] := List.pairwise_iff_getElem.mp hL.2.2.1 i j hi hj h
theorem rr_row1 {w : qm_S} {ms : List Nat} {r Z G : Nat → Nat} (hL : rr_L w ms r Z G) {m : Nat} (hm : m ∈ ms) : 1 ≤ rr_rows (Z m) ∧ r m + rr_rows (Z m) ≤ 208 := by
  obtain ⟨q1, q2, -⟩ := hL.2.2.2 m hm
  refine ⟨?_, q1⟩
  unfold rr_rows
  omega
/-- the one that lies lowest above b among the first k -/
def rr_low (ms : List Nat) (r : Nat → Nat) (b k : Nat) (x : Int32) : Prop := (x = -1 ∧ ∀ m ∈ ms, m < k → 512 + 16 * r m ≤ b) ∨ ∃ c ∈ ms, x = nI c ∧ c < k ∧ b < 512 + 16 * r c ∧ ∀ m ∈ ms, m < k → b < 512 + 16 * r m → r c ≤ r m
theorem rr_lowl {w : qm_S} {ms : List Nat} {r Z G : Nat → Nat} (hL : rr_L w ms r Z G) {b : Nat} (hb : b ≤ 4096) (rec : qm_S → Int32 → Int32 → Int32 → Option (Int32 × qm_S)) (x1 x3 : Int32) : ∀ (d k n : Nat) (x4 : Int32), k + d = 12 → rr_low ms r b k x4 → ∃ y, rr_low ms r b 12 y ∧ qf_Model_at_b26 rec (n + d + 1) w x1 (nI b) x3 x4 (nI k) = if 0 ≤ y then ((xx_ag (w.2 8) 12 y).bind fun v1 => if x3 = x1 then ((xx_ag (w.2 7) 12 y).bind fun v3 => some (v3, w)) else (xx_nm (x3 + (1 : Int32)) fun v2 => rec w x1 v1 v2)) else (some ((-1 : Int32), w)) := by
  intro d
  induction d with
  | zero =>
    intro k n x4 h hi
    have e : k = 12 := by omega
    subst e
    refine ⟨x4, hi, ?_⟩
    rw [qf_Model_at_b26, if_pos (show (12 : Int32) ≤ nI 12 from nI_le (a := 12) (Nat.le_refl _) (by decide))]
  | succ d ih =>
    intro k n x4 h hi
    have hk : k < 12 := by omega
    have c : ¬ (12 : Int32) ≤ nI k := nI_ge (b := 12) (by omega) (by decide)
    have skip : qf_Model_at_b80 rec (qf_Model_at_b26 rec (n + d + 1)) w x1 (nI b) x3 x4 (nI k) = qf_Model_at_b26 rec (n + d + 1) w x1 (nI b) x3 x4 (nI (k + 1)) := by
      rw [qf_Model_at_b80]
      simp only [xx_nm]
      rw [nI_1]
    have take : qf_Model_at_b76 rec (qf_Model_at_b26 rec (n + d + 1)) w x1 (nI b) x3 (nI k) = qf_Model_at_b26 rec (n + d + 1) w x1 (nI b) x3 (nI k) (nI (k + 1)) := by
      rw [qf_Model_at_b76, qf_Model_at_b80]
      simp only [xx_nm]
      rw [nI_1]
    rw [qf_Model_at_b26, if_neg c, rr_ag hk (by decide), Option.bind_some]
    have stay : (∀ (x : k ∈ ms), 512 + 16 * r k ≤ b ∨ ∃ c ∈ ms, x4 = nI c ∧ r c ≤ r k) → rr_low ms r b (k + 1) x4 := fun hx => by
      rcases hi with ⟨e1, e2⟩ | ⟨a, ha, e1, e2, e3, e4⟩
      · refine Or.inl ⟨e1, fun m hm hmk => ?_⟩
        by_cases e : m = k
        · subst e
          rcases hx hm with q | ⟨q, hq, e5, -⟩
          · exact q
          · have := ((hL.1 q).mp hq).1
            rw [e1] at e5
            exact absurd e5 (rr_m1I this)
        · exact e2 m hm (by omega)
      · refine Or.inr ⟨a, ha, e1, by omega, e3, fun m hm hmk hbm => ?_⟩
        by_cases e : m = k
        · subst e
          rcases hx hm with q | ⟨q, hq, e5, e6⟩
          · omega
          · have q1 := ((hL.1 q).mp hq).1
            have q2 := ((hL.1 a).mp ha).1
            have := (nI_eq (by omega) (by omega)).mp (e1.symm.trans e5)
            subst this
            exact e6
        · exact e4 m hm (by omega) hbm
    by_cases hm : k ∈ ms
    · rw [((hL.1 k).mp hm).2, if_neg (by decide), rr_ag hk (by decide), Option.bind_some]
      have eb : w.2 8 k = nI (512 + 16 * r k) := (hL.2.2.2 k hm).2.2.2.2.2.2.1
      have rk := (rr_row1 hL hm).2
      rw [eb]
      by_cases q : 512 + 16 * r k ≤ b
      · rw [if_pos (nI_le q (by omega)), show n + (d + 1) = n + d + 1 from rfl, skip]
        exact ih (k + 1) n x4 (by omega) (stay (fun _ => Or.inl q))
      · rw [if_neg (nI_ge (by omega) (by omega)), show n + (d + 1) = n + d + 1 from rfl]
        rcases hi with ⟨e1, e2⟩ | ⟨a, ha, e1, e2, e3, e4⟩
        · rw [e1, if_pos (by decide), take]
          refine ih (k + 1) n (nI k) (by omega) (Or.inr ⟨k, hm, rfl, by omega, by omega, fun m hm2 hmk hbm => ?_⟩)
          by_cases e : m = k
          · rw [e]; exact Nat.le_refl _
          · exact absurd (e2 m hm2 (by omega)) (by omega)
        · have ra := (rr_row1 hL ha).2
          rw [e1, if_neg (nI_pos (by omega)), Option.bind_some, rr_ag (by omega) (by decide), Option.bind_some, (hL.2.2.2 a ha).2.2.2.2.2.2.1]
          by_cases q2 : r a ≤ r k
          · rw [if_pos (nI_le (by omega) (by omega)), ← e1, skip]
            exact ih (k + 1) n x4 (by omega) (stay (fun _ => Or.inr ⟨a, ha, e1, q2⟩))
          · rw [if_neg (nI_ge (by omega) (by omega)), take]
            refine ih (k + 1) n (nI k) (by omega) (Or.inr ⟨k, hm, rfl, by omega, by omega, fun m hm2 hmk hbm => ?_⟩)
            by_cases e : m = k
            · rw [e]; exact Nat.le_refl _
            · have := e4 m hm2 (by omega) hbm
              omega
    · have h0 : w.2 6 k = 0 := (hL.2.1 k (by omega)).resolve_right (fun z => hm ((hL.1 k).mpr ⟨by omega, z⟩))
      rw [h0, if_pos rfl, show n + (d + 1) = n + d + 1 from rfl, skip]
      exact ih (k + 1) n x4 (by omega) (stay (fun z => absurd z hm))
def rr_lb (ms : List Nat) (r : Nat → Nat) : Nat → Nat
  | 0 => 0
  | j + 1 => ((ms[j]?).map (fun m => 512 + 16 * r m)).getD 0
def rr_atv (w : qm_S) (ms : List Nat) (X : Nat) : Int32 := ((ms[X]?).map (w.2 7)).getD (-1)
theorem rr_lbS {ms : List Nat} {r : Nat → Nat} {j : Nat} (h : j < ms.length) : rr_lb ms r (j + 1) = 512 + 16 * r ms[j] := by
  simp [rr_lb, List.getElem?_eq_getElem h]
theorem rr_atl {w : qm_S} {ms : List Nat} {r Z G : Nat → Nat} (hL : rr_L w ms r Z G) {X : Nat} (hX : X < 2 ^ 31) : ∀ (d j n : Nat), j + d = ms.length → j ≤ X → qf_Model_at_b15 (n + d + 1) w (nI X) (nI (rr_lb ms r j)) (nI j) = some (rr_atv w ms X, w) := by
  have hl := rr_len hL
  have low : ∀ j i (hi : i < ms.length), i < j → j ≤ ms.length → 512 + 16 * r ms[i] ≤ rr_lb ms r j := by
    intro j i hi hij hj
    match j, hij, hj with
    | j + 1, hij, hj =>
      rw [rr_lbS (by omega)]
      by_cases e : i = j
      · subst e; exact Nat.le_refl _
      · have := rr_srt hL i j hi (by omega) (by omega)
        omega
  have up : ∀ j i (hi : i < ms.length), j ≤ i → rr_lb ms r j < 512 + 16 * r ms[i] := by
    intro j i hi hij
    match j, hij with
    | 0, _ => show 0 < _; omega
    | j + 1, hij =>
      rw [rr_lbS (by omega)]
      have := rr_srt hL j i (by omega) hi (by omega)
      have := (rr_row1 hL (List.getElem_mem (show j < ms.length by omega))).1
      omega
  have bd : ∀ j, j ≤ ms.length → rr_lb ms r j ≤ 4096 := by
    intro j hj
    match j, hj with
    | 0, _ => exact Nat.zero_le _
    | j + 1, hj =>
      rw [rr_lbS (by omega)]
      have := (rr_row1 hL (List.getElem_mem (show j < ms.length by omega))).2
      omega
  intro d
  induction d with
  | zero =>
    intro j n h hjX
    have e : j = ms.length := by omega
    obtain ⟨y, hy, ey⟩ := rr_lowl hL (bd j (by omega)) (qf_Model_at_b15 n) (nI X) (nI j) 12 0 4987 (-1) (by decide) (Or.inl ⟨rfl, fun m _ h => absurd h (by omega)⟩)
    rw [qf_Model_at_b15, if_neg (nI_nlt hjX hX)]
    simp only [xx_nm]
    rw [← nI_0]
    refine ey.trans ?_
    rcases hy with ⟨e1, e2⟩ | ⟨a, ha, e1, e2, e3, e4⟩
    · rw [e1, if_neg (by decide)]
      rw [rr_atv, List.getElem?_eq_none (by omega)]
      rfl
    · obtain ⟨i, hi, rfl⟩ := List.getElem_of_mem ha
      exact absurd (low j i hi (by omega) (by omega)) (by omega)
  | succ d ih =>
    intro j n h hjX
    have hj : j < ms.length := by omega
    obtain ⟨y, hy, ey⟩ := rr_lowl hL (bd j (by omega)) (qf_Model_at_b15 (n + d + 1)) (nI X) (nI j) 12 0 4987 (-1) (by decide) (Or.inl ⟨rfl, fun m _ h => absurd h (by omega)⟩)
    rw [qf_Model_at_b15, if_neg (nI_nlt hjX hX)]
    simp only [xx_nm]
    rw [← nI_0]
    refine ey.trans ?_
    have hm := List.getElem_mem hj
    have hm12 := ((hL.1 _).mp hm).1
    have ey2 : y = nI ms[j] := by
      rcases hy with ⟨e1, e2⟩ | ⟨a, ha, e1, e2, e3, e4⟩
      · exact absurd (e2 _ hm hm12) (by have := up j j hj (Nat.le_refl _); omega)
      · obtain ⟨i, hi, rfl⟩ := List.getElem_of_mem ha
        have q1 : ¬ i < j := fun z => absurd (low j i hi z (by omega)) (by omega)
        have q2 : ¬ j < i := fun z => by
          have := e4 _ hm hm12 (up j j hj (Nat.le_refl _))
          have := rr_srt hL j i hj hi z
          have := (rr_row1 hL hm).1
          omega
        have q3 : i = j := by omega
        subst q3
        exact e1
    rw [ey2, if_pos (nI_pos' (by omega)), rr_ag hm12 (by decide), Option.bind_some]
    by_cases e : j = X
    · subst e
      rw [if_pos rfl, rr_ag hm12 (by decide), Option.bind_some, rr_atv, List.getElem?_eq_getElem hj]
      rfl
    · rw [if_neg (fun z => e ((nI_eq (by omega) hX).mp z))]
      simp only [xx_nm]
      rw [(hL.2.2.2 _ hm).2.2.2.2.2.2.1, nI_1, ← rr_lbS hj]
      exact ih (j + 1) n (by omega) (by omega)
theorem rs_at : ll_s_at rr_Rel := by
  intro u w x hR
  have h' := rr_thrown 0 hR
  obtain ⟨hM, hRg, hF, hT, hS, φ, ms, S, r, Z, G, hG, hL, hN, hD, hB⟩ := hR
  have hL' : rr_L (va_up w.1 0 0, w.2) ms r Z G := hL
  have hl := rr_len hL
  unfold zf_Loader_at qf_Model_at zf_ModuleTable_get
  simp only [xx_nm]
  by_cases c : x < 0
  · refine ⟨-1, u, (va_up w.1 0 0, w.2), ?_, ?_, h'⟩
    · rw [if_pos c]; rfl
    · rw [if_neg (Int32.not_le.mpr c)]
  · obtain ⟨X, hX, rfl⟩ := nI_of c
    rw [if_neg c, if_pos (Int32.not_lt.mp c)]
    refine ⟨rr_atv w ms X, u, (va_up w.1 0 0, w.2), ?_, ?_, h'⟩
    · by_cases c2 : X < ms.length
      · obtain ⟨o1, nd, ns, o2, -⟩ := hD.2.2.2.2 _ (List.getElem_mem c2)
        rw [if_neg (by rw [hD.1]; exact nI_ge c2 (by omega)), rr_ag (by omega) (by decide), Option.bind_some, hD.2.1 X c2, zf_ModuleTable_get_b22, rr_b2s]
        simp only [xx_on]
        rw [rr_pi o1 o2 rfl, rr_atv, List.getElem?_eq_getElem c2]
        rfl
      · rw [if_pos (by rw [hD.1]; exact nI_le (by omega) hX), zf_ModuleTable_get_b21, zf_ModuleTable_get_b22, rr_b2s]
        simp only [xx_on]
        rw [rr_atv, List.getElem?_eq_none (by omega)]
        rfl
    · have h := rr_atl hL' hX ms.length 0 (4999 - ms.length) (by omega) (by omega)
      rw [show 4999 - ms.length + ms.length + 1 = xx_fu by unfold xx_fu; omega, show rr_lb ms r 0 = 0 from rfl, nI_0] at h
      exact h
