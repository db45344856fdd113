/-! rows and gaps; count -/
theorem rr_nm {α β : Type} (x : α) (f : α → Option β) : xx_nm x f = f x := rfl
theorem rr_on0 {β : Type} (x : Option β) (f : Nat → Option β) : xx_on none x f = x := rfl
theorem rr_onS {β : Type} (a : Nat) (x : Option β) (f : Nat → Option β) : xx_on (some a) x f = f a := rfl
def rr_occ (ms : List Nat) (r Z : Nat → Nat) (i m : Nat) : Bool := decide (m ∈ ms ∧ r m ≤ i ∧ i < r m + rr_rows (Z m))
def rr_fre (ms : List Nat) (r Z : Nat → Nat) (i : Nat) : Bool := (List.range 12).all (fun m => !(rr_occ ms r Z i m))
theorem rr_rowl {w : qm_S} {ms : List Nat} {r Z G : Nat → Nat} (hL : rr_L w ms r Z G) {i : Nat} (hi : i < 4096) : ∀ (d k n : Nat) (acc : Bool), k + d = 12 → qf_Model_isRowFree_b4 (n + d + 1) w (nI i) (rr_bi acc) (nI k) = some (rr_bi (acc && (List.range' k d).all (fun m => !(rr_occ ms r Z i m))), w) := by
  intro d
  induction d with
  | zero =>
    intro k n acc h
    have e : k = 12 := by omega
    subst e
    rw [qf_Model_isRowFree_b4, if_pos (show (12 : Int32) ≤ nI 12 from nI_le (a := 12) (Nat.le_refl _) (by decide))]
    cases acc
    · rw [rr_bif, rr_nb0]; rfl
    · rw [rr_bit, rr_nb1]; rfl
  | succ d ih =>
    intro k n acc h
    have hk : k < 12 := by omega
    have c : ¬ (12 : Int32) ≤ nI k := nI_ge (b := 12) (by omega) (by decide)
    have y0 : qf_Model_isRowFree_b74 (qf_Model_isRowFree_b4 (n + d + 1)) w (nI i) (nI k) = qf_Model_isRowFree_b4 (n + d + 1) w (nI i) (rr_bi false) (nI (k + 1)) := by
      rw [qf_Model_isRowFree_b74, qf_Model_isRowFree_b75]
      simp only [xx_nm]
      rw [nI_1]
      rfl
    have y1 : qf_Model_isRowFree_b70 (qf_Model_isRowFree_b4 (n + d + 1)) w (nI i) (nI k) = qf_Model_isRowFree_b4 (n + d + 1) w (nI i) (rr_bi true) (nI (k + 1)) := by
      rw [qf_Model_isRowFree_b70, qf_Model_isRowFree_b75]
      simp only [xx_nm]
      rw [nI_1]
      rfl
    have st : qf_Model_isRowFree_b4 (n + (d + 1) + 1) w (nI i) (rr_bi acc) (nI k) = qf_Model_isRowFree_b4 (n + d + 1) w (nI i) (rr_bi (acc && !(rr_occ ms r Z i k))) (nI (k + 1)) := by
      rw [qf_Model_isRowFree_b4, if_neg c, show n + (d + 1) = n + d + 1 from rfl]
      cases acc
      · rw [if_pos rr_bif, y0]
        rfl
      · rw [if_neg (by decide), rr_ag hk (by decide), Option.bind_some, Bool.true_and]
        by_cases hm : k ∈ ms
        · obtain ⟨a1, a2, a3, a4, a5, a6, a7, a8, a9⟩ := hL.2.2.2 k hm
          have hr := rr_row1 hL hm
          have e1 : (w.2 8 k - (512 : Int32)) / (16 : Int32) = nI (r k) := by
            rw [a7]
            show (nI (512 + 16 * r k) - nI 512) / nI 16 = _
            rw [pk_sub (by omega), pk_div (by omega) (by decide) (by decide), show (512 + 16 * r k - 512) / 16 = r k by omega]
          have e2 : (w.2 9 k + (15 : Int32)) / (16 : Int32) = nI (rr_rows (Z k)) := by
            rw [a8]
            show (nI (Z k) + nI 15) / nI 16 = _
            rw [nI_add, pk_div (by omega) (by decide) (by decide)]
            rfl
          rw [((hL.1 k).mp hm).2, if_neg (by decide), rr_ag hk (by decide), Option.bind_some, e1]
          by_cases q : i < r k
          · rw [if_pos (nI_lt q (by omega)), y1]
            have : rr_occ ms r Z i k = false := by
              unfold rr_occ
              rw [decide_eq_false_iff_not]
              exact fun z => absurd z.2.1 (by omega)
            rw [this]
            rfl
          · rw [if_neg (nI_nlt (by omega) (by omega)), Option.bind_some, rr_ag hk (by decide), Option.bind_some, e1, e2, nI_add]
            by_cases q2 : i < r k + rr_rows (Z k)
            · have : rr_occ ms r Z i k = true := by
                unfold rr_occ
                rw [decide_eq_true_iff]
                exact ⟨hm, by omega, q2⟩
              rw [if_pos (nI_lt q2 (by omega)), y0, this]
              rfl
            · have : rr_occ ms r Z i k = false := by
                unfold rr_occ
                rw [decide_eq_false_iff_not]
                exact fun z => absurd z.2.2 q2
              rw [if_neg (nI_nlt (by omega) (by omega)), y1, this]
              rfl
        · have h0 : w.2 6 k = 0 := (hL.2.1 k (by omega)).resolve_right (fun z => hm ((hL.1 k).mpr ⟨by omega, z⟩))
          have : rr_occ ms r Z i k = false := by
            unfold rr_occ
            rw [decide_eq_false_iff_not]
            exact fun z => hm z.1
          rw [h0, if_pos rfl, y1, this]
          rfl
    rw [st, ih (k + 1) n _ (by omega), List.range'_succ, List.all_cons, Bool.and_assoc]
theorem rr_row {w : qm_S} {ms : List Nat} {r Z G : Nat → Nat} (hL : rr_L w ms r Z G) {i : Nat} (hi : i < 4096) : qf_Model_isRowFree w (nI i) = some (rr_bi (rr_fre ms r Z i), w) := by
  have h := rr_rowl hL hi 12 0 4987 true (by decide)
  rw [Bool.true_and, ← List.range_eq_range', nI_0] at h
  exact h
def rr_en (ms : List Nat) (r Z : Nat → Nat) : Nat → Nat
  | 0 => 0
  | k + 1 => ((ms[k]?).map (fun m => r m + rr_rows (Z m))).getD 0
def rr_st (ms : List Nat) (r : Nat → Nat) (k : Nat) : Nat := ((ms[k]?).map r).getD 208
theorem rr_enS {ms : List Nat} {r Z : Nat → Nat} {k : Nat} (h : k < ms.length) : rr_en ms r Z (k + 1) = r ms[k] + rr_rows (Z ms[k]) := by
  simp [rr_en, List.getElem?_eq_getElem h]
theorem rr_stL {ms : List Nat} {r : Nat → Nat} {k : Nat} (h : k < ms.length) : rr_st ms r k = r ms[k] := by
  simp [rr_st, List.getElem?_eq_getElem h]
theorem rr_stE {ms : List Nat} {r : Nat → Nat} : rr_st ms r ms.length = 208 := by
  simp [rr_st]
def rr_gp (ms : List Nat) (r Z : Nat → Nat) (k : Nat) : Nat := rr_st ms r k - rr_en ms r Z k
theorem rr_ens {w : qm_S} {ms : List Nat} {r Z G : Nat → Nat} (hL : rr_L w ms r Z G) {k : Nat} (hk : k ≤ ms.length) : rr_en ms r Z k ≤ rr_st ms r k ∧ rr_st ms r k ≤ 208 := by
  have h1 : rr_st ms r k ≤ 208 := by
    by_cases c : k < ms.length
    · rw [rr_stL c]
      have := (rr_row1 hL (List.getElem_mem c)).2
      omega
    · have : k = ms.length := by omega
      subst this
      rw [rr_stE]
      exact Nat.le_refl _
  refine ⟨?_, h1⟩
  match k, hk with
  | 0, _ => exact Nat.zero_le _
  | k + 1, hk =>
    rw [rr_enS (by omega)]
    by_cases c : k + 1 < ms.length
    · rw [rr_stL c]
      exact rr_srt hL k (k + 1) (by omega) c (by omega)
    · have : k + 1 = ms.length := by omega
      rw [this, rr_stE]
      exact (rr_row1 hL (List.getElem_mem (show k < ms.length by omega))).2
theorem rr_freG {w : qm_S} {ms : List Nat} {r Z G : Nat → Nat} (hL : rr_L w ms r Z G) {k i : Nat} (hk : k ≤ ms.length) (h1 : rr_en ms r Z k ≤ i) (h2 : i < rr_st ms r k) : rr_fre ms r Z i = true := by
  unfold rr_fre
  rw [List.all_eq_true]
  intro m hm
  rw [Bool.not_eq_true', rr_occ, decide_eq_false_iff_not]
  rintro ⟨q1, q2, q3⟩
  obtain ⟨j, hj, rfl⟩ := List.getElem_of_mem q1
  by_cases c : j < k
  · match k, hk, h1, c with
    | k + 1, hk, h1, c =>
      rw [rr_enS (by omega)] at h1
      by_cases e : j = k
      · subst e; omega
      · have := rr_srt hL j k hj (by omega) (by omega)
        have := (rr_row1 hL (List.getElem_mem (show k < ms.length by omega))).1
        omega
  · rw [rr_stL (by omega)] at h2
    by_cases e : j = k
    · subst e; omega
    · have := rr_srt hL k j (by omega) hj (by omega)
      omega
theorem rr_freO {w : qm_S} {ms : List Nat} {r Z G : Nat → Nat} (hL : rr_L w ms r Z G) {k i : Nat} (hk : k < ms.length) (h1 : rr_st ms r k ≤ i) (h2 : i < rr_en ms r Z (k + 1)) : rr_fre ms r Z i = false := by
  rw [rr_stL hk] at h1
  rw [rr_enS hk] at h2
  unfold rr_fre
  rw [List.all_eq_false]
  refine ⟨ms[k], List.mem_range.mpr ((hL.1 _).mp (List.getElem_mem hk)).1, ?_⟩
  rw [Bool.not_eq_true, Bool.not_eq_false', rr_occ, decide_eq_true_iff]
  exact ⟨List.getElem_mem hk, h1, h2⟩
/-- the row just behind: free rows, the run, the longest run -/
def rr_fr (F : Nat → Bool) : Nat → Nat
  | 0 => 0
  | i + 1 => rr_fr F i + (bif F i then 1 else 0)
def rr_ru (F : Nat → Bool) : Nat → Nat
  | 0 => 0
  | i + 1 => bif F i then rr_ru F i + 1 else 0
def rr_be (F : Nat → Bool) : Nat → Nat
  | 0 => 0
  | i + 1 => max (rr_be F i) (rr_ru F (i + 1))
theorem rr_segF {F : Nat → Bool} {a : Nat} (hb : rr_ru F a ≤ rr_be F a) : ∀ d, (∀ i, a ≤ i → i < a + d → F i = true) → rr_fr F (a + d) = rr_fr F a + d ∧ rr_ru F (a + d) = rr_ru F a + d ∧ rr_be F (a + d) = max (rr_be F a) (rr_ru F a + d) := by
  intro d
  induction d with
  | zero =>
    intro _
    exact ⟨rfl, rfl, by show rr_be F a = _; omega⟩
  | succ d ih =>
    intro h
    obtain ⟨a1, a2, a3⟩ := ih (fun i h1 h2 => h i h1 (by omega))
    have e := h (a + d) (by omega) (by omega)
    have e2 : rr_ru F (a + d + 1) = rr_ru F (a + d) + 1 := by rw [rr_ru, e]; rfl
    refine ⟨?_, ?_, ?_⟩
    · show rr_fr F (a + d + 1) = _
      rw [rr_fr, e, a1]
      show rr_fr F a + d + 1 = _
      omega
    · show rr_ru F (a + d + 1) = _
      rw [e2, a2]
      omega
    · show rr_be F (a + d + 1) = _
      rw [rr_be, e2, a2, a3]
      omega
theorem rr_segO {F : Nat → Bool} {a : Nat} : ∀ d, (∀ i, a ≤ i → i < a + d → F i = false) → rr_fr F (a + d) = rr_fr F a ∧ (0 < d → rr_ru F (a + d) = 0) ∧ rr_be F (a + d) = rr_be F a := by
  intro d
  induction d with
  | zero =>
    intro _
    exact ⟨rfl, fun h => absurd h (by omega), rfl⟩
  | succ d ih =>
    intro h
    obtain ⟨a1, a2, a3⟩ := ih (fun i h1 h2 => h i h1 (by omega))
    have e := h (a + d) (by omega) (by omega)
    have e2 : rr_ru F (a + d + 1) = 0 := by rw [rr_ru, e]; rfl
    refine ⟨?_, fun _ => e2, ?_⟩
    · show rr_fr F (a + d + 1) = _
      rw [rr_fr, e, a1]
      rfl
    · show rr_be F (a + d + 1) = _
      rw [rr_be, e2, a3]
      omega
/-- what the gaps sum up to, the longest -/
def rr_sg (g : Nat → Nat) : Nat → Nat
  | 0 => 0
  | k + 1 => rr_sg g k + g k
def rr_mg (g : Nat → Nat) : Nat → Nat
  | 0 => 0
  | k + 1 => max (rr_mg g k) (g k)
theorem rr_gaps {w : qm_S} {ms : List Nat} {r Z G : Nat → Nat} (hL : rr_L w ms r Z G) : ∀ k, k ≤ ms.length → rr_fr (rr_fre ms r Z) (rr_en ms r Z k) = rr_sg (rr_gp ms r Z) k ∧ rr_ru (rr_fre ms r Z) (rr_en ms r Z k) = 0 ∧ rr_be (rr_fre ms r Z) (rr_en ms r Z k) = rr_mg (rr_gp ms r Z) k := by
  intro k
  induction k with
  | zero => intro _; exact ⟨rfl, rfl, rfl⟩
  | succ k ih =>
    intro h
    obtain ⟨a1, a2, a3⟩ := ih (by omega)
    obtain ⟨b1, b2⟩ := rr_ens hL (show k ≤ ms.length by omega)
    have e1 : rr_en ms r Z k + rr_gp ms r Z k = rr_st ms r k := by unfold rr_gp; omega
    obtain ⟨c1, c2, c3⟩ := rr_segF (F := rr_fre ms r Z) (a := rr_en ms r Z k) (by rw [a2]; exact Nat.zero_le _) (rr_gp ms r Z k) (fun i h1 h2 => rr_freG hL (by omega) h1 (by omega))
    rw [e1] at c1 c2 c3
    have e3 := rr_row1 hL (List.getElem_mem (show k < ms.length by omega))
    have e2 : rr_st ms r k + rr_rows (Z ms[k]) = rr_en ms r Z (k + 1) := by rw [rr_stL (by omega), rr_enS (by omega)]
    obtain ⟨d1, d2, d3⟩ := rr_segO (F := rr_fre ms r Z) (a := rr_st ms r k) (rr_rows (Z ms[k])) (fun i h1 h2 => rr_freO hL (by omega) h1 (by omega))
    rw [e2] at d1 d2 d3
    refine ⟨?_, d2 (by omega), ?_⟩
    · rw [d1, c1, a1, rr_sg]
    · rw [d3, c3, a3, a2, rr_mg]
      omega
theorem rr_gapsE {w : qm_S} {ms : List Nat} {r Z G : Nat → Nat} (hL : rr_L w ms r Z G) {N : Nat} (hN : N = 208) : rr_fr (rr_fre ms r Z) N = rr_sg (rr_gp ms r Z) (ms.length + 1) ∧ rr_be (rr_fre ms r Z) N = rr_mg (rr_gp ms r Z) (ms.length + 1) := by
  obtain ⟨a1, a2, a3⟩ := rr_gaps hL ms.length (Nat.le_refl _)
  obtain ⟨b1, b2⟩ := rr_ens hL (Nat.le_refl ms.length)
  have e1 : rr_en ms r Z ms.length + rr_gp ms r Z ms.length = N := by
    unfold rr_gp
    rw [rr_stE] at b1 ⊢
    rw [hN]
    omega
  obtain ⟨c1, c2, c3⟩ := rr_segF (F := rr_fre ms r Z) (a := rr_en ms r Z ms.length) (by rw [a2]; exact Nat.zero_le _) (rr_gp ms r Z ms.length) (fun i h1 h2 => rr_freG hL (Nat.le_refl _) h1 (by rw [rr_stE]; omega))
  rw [e1] at c1 c2 c3
  refine ⟨by rw [c1, a1, rr_sg], ?_⟩
  rw [c3, a3, a2, rr_mg]
  omega
theorem rr_bnd (F : Nat → Bool) : ∀ i, rr_fr F i ≤ i ∧ rr_ru F i ≤ i ∧ rr_be F i ≤ i := by
  intro i
  induction i with
  | zero => exact ⟨Nat.le_refl _, Nat.le_refl _, Nat.le_refl _⟩
  | succ i ih =>
    obtain ⟨a, b, c⟩ := ih
    have : rr_ru F (i + 1) ≤ i + 1 := by rw [rr_ru]; cases F i <;> simp <;> omega
    refine ⟨?_, this, ?_⟩
    · rw [rr_fr]; cases F i <;> simp <;> omega
    · rw [rr_be]; omega
/-- the class's walk over the gaps; a place is one before the gap's number -/
def rr_xk (k : Nat) : Int32 := nI k + (-1)
theorem rr_xk0 : rr_xk 0 = -1 := by decide
theorem rr_xkS (k : Nat) : rr_xk (k + 1) = nI k := pk_m1 k
theorem rr_xk1 (k : Nat) : rr_xk k + 1 = nI k := by
  cases k with
  | zero => decide
  | succ k => rw [rr_xkS, nI_1]
theorem rr_xkc {u : zz_S} {l k : Nat} (hu : u.1 16 = nI l) (hl : l ≤ 12) (hk : k ≤ l) : ¬ u.1 16 ≤ rr_xk k := by
  rw [hu]
  cases k with
  | zero =>
    rw [rr_xk0]
    exact fun z => absurd (Int32.le_trans (nI_pos' (show l < 2 ^ 31 by omega)) z) (by decide)
  | succ k =>
    rw [rr_xkS]
    exact nI_ge (by omega) (by omega)
theorem rr_xke {u : zz_S} {l : Nat} (hu : u.1 16 = nI l) (hl : l ≤ 12) : u.1 16 ≤ rr_xk (l + 1) := by
  rw [hu, rr_xkS]
  exact nI_le (Nat.le_refl _) (by omega)
theorem rr_get {u : zz_S} {w : qm_S} {φ : Nat → Nat} {ms : List Nat} {S : Nat} {r Z : Nat → Nat} (hD : rr_D u w φ ms S r Z) (hl : ms.length ≤ 12) (k : Nat) (hk : k ≤ ms.length) : zf_ModuleTable_get u (nI k) = some ((ms[k]?).map φ, u) := by
  unfold zf_ModuleTable_get
  rw [if_neg (nI_pos (by omega))]
  by_cases c : k < ms.length
  · rw [if_neg (by rw [hD.1]; exact nI_ge c (by omega)), rr_ag (by omega) (by decide), Option.bind_some, hD.2.1 k c, List.getElem?_eq_getElem c]
    rfl
  · rw [if_pos (by rw [hD.1]; exact nI_le (by omega) (by omega)), List.getElem?_eq_none (by omega)]
    rfl
theorem rr_gst {u : zz_S} {w : qm_S} {φ : Nat → Nat} {ms : List Nat} {S : Nat} {r Z : Nat → Nat} (hD : rr_D u w φ ms S r Z) (hl : ms.length ≤ 12) (k : Nat) (hk : k ≤ ms.length) : zf_ModuleTable_gapStart u (rr_xk k) = some (nI (rr_en ms r Z k), u) := by
  unfold zf_ModuleTable_gapStart
  cases k with
  | zero =>
    rw [rr_xk0]
    rfl
  | succ k =>
    have hk2 : k < ms.length := by omega
    obtain ⟨o1, nd, ns, o2, -⟩ := hD.2.2.2.2 _ (List.getElem_mem hk2)
    rw [rr_xkS, rr_get hD hl k (by omega), rr_b2s, List.getElem?_eq_getElem hk2]
    rw [Option.map_some, rr_onS, rr_pi o1 o2 rfl, Option.bind_some, rr_enS hk2]
    rfl
theorem rr_grw {u : zz_S} {w : qm_S} {φ : Nat → Nat} {ms : List Nat} {S : Nat} {r Z G : Nat → Nat} (hL : rr_L w ms r Z G) (hD : rr_D u w φ ms S r Z) (hl : ms.length ≤ 12) (k : Nat) (hk : k ≤ ms.length) : zf_ModuleTable_gapRows u (rr_xk k) = some (nI (rr_gp ms r Z k), u) := by
  obtain ⟨b1, b2⟩ := rr_ens hL hk
  unfold zf_ModuleTable_gapRows
  rw [rr_xk1, rr_get hD hl k hk, rr_b2s]
  have fin : ∀ y, y = nI (rr_st ms r k) → zf_ModuleTable_gapRows_b22 u (rr_xk k) y = some (nI (rr_gp ms r Z k), u) := fun y hy => by
    rw [hy, zf_ModuleTable_gapRows_b22, rr_gst hD hl k hk, rr_b2s, pk_sub b1, rr_gp]
  by_cases c : k < ms.length
  · obtain ⟨o1, nd, ns, o2, -⟩ := hD.2.2.2.2 _ (List.getElem_mem c)
    rw [List.getElem?_eq_getElem c]
    rw [Option.map_some, rr_onS, rr_pi o1 o2 rfl, Option.bind_some]
    exact fin _ (by rw [rr_stL c])
  · have e : k = ms.length := by omega
    rw [List.getElem?_eq_none (by omega)]
    rw [Option.map_none, rr_on0]
    exact fin 208 (by rw [e, rr_stE]; exact (rfl : (208 : Int32) = nI 208))
theorem rr_freeZ {u : zz_S} {w : qm_S} {φ : Nat → Nat} {ms : List Nat} {S : Nat} {r Z G : Nat → Nat} (hL : rr_L w ms r Z G) (hD : rr_D u w φ ms S r Z) (hl : ms.length ≤ 12) : ∀ (d k n : Nat), k + d = ms.length + 1 → zf_ModuleTable_freeRows_b4 (n + d + 1) u (nI (rr_sg (rr_gp ms r Z) k)) (rr_xk k) = some (nI (rr_sg (rr_gp ms r Z) (ms.length + 1)), u) := by
  intro d
  induction d with
  | zero =>
    intro k n h
    have e : k = ms.length + 1 := by omega
    subst e
    rw [zf_ModuleTable_freeRows_b4, if_pos (rr_xke hD.1 hl)]
  | succ d ih =>
    intro k n h
    rw [zf_ModuleTable_freeRows_b4, if_neg (rr_xkc hD.1 hl (by omega)), rr_grw hL hD hl k (by omega), rr_b2s, rr_nm, rr_nm]
    have e := ih (k + 1) n (by omega)
    rw [show rr_sg (rr_gp ms r Z) (k + 1) = rr_sg (rr_gp ms r Z) k + rr_gp ms r Z k from rfl] at e
    rw [nI_add, show rr_xk k + 1 = rr_xk (k + 1) from (rr_xk1 k).trans (rr_xkS k).symm]
    exact e
theorem rr_longZ {u : zz_S} {w : qm_S} {φ : Nat → Nat} {ms : List Nat} {S : Nat} {r Z G : Nat → Nat} (hL : rr_L w ms r Z G) (hD : rr_D u w φ ms S r Z) (hl : ms.length ≤ 12) : ∀ (d k n : Nat), k + d = ms.length + 1 → rr_mg (rr_gp ms r Z) k ≤ 208 → zf_ModuleTable_longestGap_b4 (n + d + 1) u (nI (rr_mg (rr_gp ms r Z) k)) (rr_xk k) = some (nI (rr_mg (rr_gp ms r Z) (ms.length + 1)), u) := by
  intro d
  induction d with
  | zero =>
    intro k n h _
    have e : k = ms.length + 1 := by omega
    subst e
    rw [zf_ModuleTable_longestGap_b4, if_pos (rr_xke hD.1 hl)]
  | succ d ih =>
    intro k n h hb
    have hg : rr_gp ms r Z k ≤ 208 := by
      have := rr_ens hL (show k ≤ ms.length by omega)
      unfold rr_gp
      omega
    rw [zf_ModuleTable_longestGap_b4, if_neg (rr_xkc hD.1 hl (by omega)), rr_grw hL hD hl k (by omega), rr_b2s, rr_nm, rr_nm]
    have e : (if nI (rr_mg (rr_gp ms r Z) k) < nI (rr_gp ms r Z k) then nI (rr_gp ms r Z k) else nI (rr_mg (rr_gp ms r Z) k)) = nI (rr_mg (rr_gp ms r Z) (k + 1)) := by
      rw [rr_mg]
      by_cases q : rr_mg (rr_gp ms r Z) k < rr_gp ms r Z k
      · rw [if_pos (nI_lt q (by omega)), show max (rr_mg (rr_gp ms r Z) k) (rr_gp ms r Z k) = rr_gp ms r Z k by omega]
      · rw [if_neg (nI_nlt (by omega) (by omega)), show max (rr_mg (rr_gp ms r Z) k) (rr_gp ms r Z k) = rr_mg (rr_gp ms r Z) k by omega]
    rw [e, show rr_xk k + 1 = rr_xk (k + 1) from (rr_xk1 k).trans (rr_xkS k).symm]
    exact ih (k + 1) n (by omega) (by rw [rr_mg]; omega)
/-- the answer of count, from its parts -/
def rr_cans (w : qm_S) (x : Int32) (a b c : Nat) : Int32 := if x = 0 then nI a else if x = 1 then w.1 3 else if x = 2 then nI b else if x = 3 then nI c else if x = 4 then w.1 15 else -1
theorem rr_crow {w : qm_S} {ms : List Nat} {r Z G : Nat → Nat} (hL : rr_L w ms r Z G) (x : Int32) (a : Nat) {N : Nat} (hN : N = 208) : ∀ (d i n : Nat), i + d = N → qf_Model_count_b52 (n + d + 1) w x (nI a) (nI (rr_fr (rr_fre ms r Z) i)) (nI (rr_ru (rr_fre ms r Z) i)) (nI (rr_be (rr_fre ms r Z) i)) (nI i) = some (rr_cans w x a (rr_fr (rr_fre ms r Z) N) (rr_be (rr_fre ms r Z) N), w) := by
  intro d
  induction d with
  | zero =>
    intro i n h
    have e : i = N := by omega
    subst e
    rw [qf_Model_count_b52, if_pos (show (208 : Int32) ≤ nI i from nI_le (a := 208) (by omega) (by omega)), rr_cans]
    by_cases c0 : x = 0
    · rw [if_pos c0, if_pos c0]
    rw [if_neg c0, if_neg c0]
    by_cases c1 : x = 1
    · rw [if_pos c1, if_pos c1]
    rw [if_neg c1, if_neg c1]
    by_cases c2 : x = 2
    · rw [if_pos c2, if_pos c2]
    rw [if_neg c2, if_neg c2]
    by_cases c3 : x = 3
    · rw [if_pos c3, if_pos c3]
    rw [if_neg c3, if_neg c3]
    by_cases c4 : x = 4
    · rw [if_pos c4, if_pos c4]
    rw [if_neg c4, if_neg c4]
  | succ d ih =>
    intro i n h
    obtain ⟨b1, b2, b3⟩ := rr_bnd (rr_fre ms r Z) i
    have e := ih (i + 1) n (by omega)
    rw [qf_Model_count_b52, if_neg (show ¬ (208 : Int32) ≤ nI i from nI_ge (b := 208) (by omega) (by decide)), rr_row hL (by omega), rr_b2s]
    rw [show rr_fr (rr_fre ms r Z) (i + 1) = rr_fr (rr_fre ms r Z) i + (bif rr_fre ms r Z i then 1 else 0) from rfl, show rr_be (rr_fre ms r Z) (i + 1) = max (rr_be (rr_fre ms r Z) i) (rr_ru (rr_fre ms r Z) (i + 1)) from rfl, show rr_ru (rr_fre ms r Z) (i + 1) = bif rr_fre ms r Z i then rr_ru (rr_fre ms r Z) i + 1 else 0 from rfl] at e
    cases hf : rr_fre ms r Z i
    · rw [hf] at e
      rw [if_pos rr_bif, qf_Model_count_b79]
      simp only [xx_nm]
      rw [if_pos rr_bif, qf_Model_count_b94, if_pos (show (0 : Int32) ≤ nI (rr_be (rr_fre ms r Z) i) from nI_pos' (by omega)), qf_Model_count_b110]
      simp only [xx_nm]
      rw [nI_1, show ∀ x, nI x + 0 = nI (x + 0) from fun x => nI_add x 0]
      simp only [cond_false, Nat.max_zero, Nat.add_zero] at e ⊢
      rw [nI_0] at e
      exact e
    · rw [hf] at e
      rw [if_neg (by decide), qf_Model_count_b79]
      simp only [xx_nm]
      rw [if_neg (by decide), qf_Model_count_b94, nI_1, nI_1]
      simp only [cond_true] at e
      by_cases q : rr_ru (rr_fre ms r Z) i + 1 ≤ rr_be (rr_fre ms r Z) i
      · rw [if_pos (nI_le q (by omega)), qf_Model_count_b110]
        simp only [xx_nm]
        rw [nI_1]
        rw [show max (rr_be (rr_fre ms r Z) i) (rr_ru (rr_fre ms r Z) i + 1) = rr_be (rr_fre ms r Z) i by omega] at e
        exact e
      · rw [if_neg (nI_ge (by omega) (by omega)), qf_Model_count_b110]
        simp only [xx_nm]
        rw [nI_1]
        rw [show max (rr_be (rr_fre ms r Z) i) (rr_ru (rr_fre ms r Z) i + 1) = rr_ru (rr_fre ms r Z) i + 1 by omega] at e
        exact e
theorem rr_cmod {w : qm_S} {ms : List Nat} {r Z G : Nat → Nat} (hL : rr_L w ms r Z G) (x : Int32) : ∀ (d k n acc : Nat), k + d = 12 → qf_Model_count_b18 (n + d + 1) w x (nI acc) 0 0 0 (nI k) = qf_Model_count_b52 xx_fu w x (nI (acc + ((List.range' k d).filter (fun j => decide (w.2 6 j = 1))).length)) 0 0 0 0 := by
  intro d
  induction d with
  | zero =>
    intro k n acc h
    have e : k = 12 := by omega
    subst e
    rw [qf_Model_count_b18, if_pos (show (12 : Int32) ≤ nI 12 from nI_le (a := 12) (Nat.le_refl _) (by decide)), rr_nm, List.range'_zero, List.filter_nil, List.length_nil, Nat.add_zero]
  | succ d ih =>
    intro k n acc h
    have hk : k < 12 := by omega
    rw [qf_Model_count_b18, if_neg (show ¬ (12 : Int32) ≤ nI k from nI_ge (b := 12) (by omega) (by decide)), rr_ag hk (by decide), Option.bind_some, List.range'_succ, List.filter_cons]
    rcases hL.2.1 k hk with q | q
    · rw [q, if_pos rfl, if_neg (by decide), qf_Model_count_b41]
      simp only [xx_nm]
      rw [nI_1, show ∀ x, nI x + 0 = nI (x + 0) from fun x => nI_add x 0]
      exact ih (k + 1) n acc (by omega)
    · rw [q, if_neg (by decide), if_pos (by decide), qf_Model_count_b41]
      simp only [xx_nm]
      rw [nI_1, nI_1, List.length_cons]
      refine (ih (k + 1) n (acc + 1) (by omega)).trans ?_
      rw [show ∀ L : Nat, acc + 1 + L = acc + (L + 1) from fun L => by omega]
theorem rs_count : ll_s_count rr_Rel := by
  intro u w x hR
  have h' := rr_thrown 0 hR
  obtain ⟨hM, hRg, hF, ⟨nt, hT1, hT2, hT3, -⟩, hS, φ, ms, S, r, Z, G, hG, hL, hN, hD, hB⟩ := hR
  have hL' : rr_L (va_up w.1 0 0, w.2) ms r Z G := hL
  have hl := rr_len hL
  obtain ⟨N, hN⟩ : ∃ N, N = 208 := ⟨208, rfl⟩
  obtain ⟨g1, g2⟩ := rr_gapsE hL hN
  have hq : qf_Model_count w x = some (rr_cans (va_up w.1 0 0, w.2) x ms.length (rr_sg (rr_gp ms r Z) (ms.length + 1)) (rr_mg (rr_gp ms r Z) (ms.length + 1)), (va_up w.1 0 0, w.2)) := by
    unfold qf_Model_count
    simp only [xx_nm]
    have h1 := rr_cmod hL' x 12 0 4987 0 (by decide)
    have h2 := rr_crow hL' x ms.length hN N 0 (4999 - N) (by omega)
    rw [nI_0, Nat.zero_add, ← List.range_eq_range', rr_lenf (b := ms) (List.Pairwise.filter _ List.nodup_range) (rr_nodup hL) (fun k => by
      rw [List.mem_filter, List.mem_range, decide_eq_true_iff]
      exact (hL.1 k).symm)] at h1
    rw [show rr_fr (rr_fre ms r Z) 0 = 0 from rfl, show rr_ru (rr_fre ms r Z) 0 = 0 from rfl, show rr_be (rr_fre ms r Z) 0 = 0 from rfl, nI_0, g1, g2, show 4999 - N + N + 1 = xx_fu by unfold xx_fu; omega] at h2
    rw [show 4987 + 12 + 1 = xx_fu from rfl] at h1
    exact h1.trans h2
  refine ⟨_, u, (va_up w.1 0 0, w.2), ?_, hq, h'⟩
  unfold zf_Loader_count rr_cans
  by_cases c0 : x = 0
  · rw [if_pos c0, if_pos c0, zf_ModuleTable_size, rr_b2s, hD.1]
  rw [if_neg c0, if_neg c0]
  by_cases c1 : x = 1
  · rw [if_pos c1, if_pos c1, zf_SymbolTable_size, rr_b2s, hB.2.1]
    exact congrArg (fun z => some (z, u)) hB.2.2.1.symm
  rw [if_neg c1, if_neg c1]
  by_cases c2 : x = 2
  · rw [if_pos c2, if_pos c2, zf_ModuleTable_freeRows]
    have h := rr_freeZ hL hD hl (ms.length + 1) 0 (4998 - ms.length) (by omega)
    rw [show 4998 - ms.length + (ms.length + 1) + 1 = xx_fu by unfold xx_fu; omega, rr_xk0, show rr_sg (rr_gp ms r Z) 0 = 0 from rfl, nI_0] at h
    simp only [xx_nm]
    rw [h, rr_b2s]
  rw [if_neg c2, if_neg c2]
  by_cases c3 : x = 3
  · rw [if_pos c3, if_pos c3, zf_ModuleTable_longestGap]
    have h := rr_longZ hL hD hl (ms.length + 1) 0 (4998 - ms.length) (by omega) (Nat.zero_le _)
    rw [show 4998 - ms.length + (ms.length + 1) + 1 = xx_fu by unfold xx_fu; omega, rr_xk0, show rr_mg (rr_gp ms r Z) 0 = 0 from rfl, nI_0] at h
    simp only [xx_nm]
    rw [h, rr_b2s]
  rw [if_neg c3, if_neg c3]
  by_cases c4 : x = 4
  · rw [if_pos c4, if_pos c4, zf_Tape_length, rr_b2s, hT2]
    exact congrArg (fun z => some (z, u)) hT3.symm
  rw [if_neg c4, if_neg c4]
