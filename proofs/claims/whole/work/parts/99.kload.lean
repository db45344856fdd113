/-! the file's lists, on both sides -/
def rr_iB (W : Nat → Int32) (σ i : Nat) : Bool := rr_nmB (W (8 + σ + 2 * i))
def rr_xB (W : Nat → Int32) (σ a j i : Nat) : Bool := !(decide (W (8 + σ + 2 * a + 3 * i) = W (8 + σ + 2 * a + 3 * j)))
def rr_eB (W : Nat → Int32) (σ a j : Nat) : Bool := rr_nmB (W (8 + σ + 2 * a + 3 * j)) && (rr_woB (W (8 + σ + 2 * a + 3 * j + 2)) (nI (4 * σ)) && (List.range' 0 j).all (rr_xB W σ a j))
def rr_pB (W : Nat → Int32) (σ a b k : Nat) : Bool := rr_upB (W (8 + σ + 2 * a + 3 * b + 4 * k)) 5 && (rr_woB (W (8 + σ + 2 * a + 3 * b + 4 * k + 1)) (nI (4 * σ)) && (decide (W (8 + σ + 2 * a + 3 * b + 4 * k + 2) = -1) || rr_upB (W (8 + σ + 2 * a + 3 * b + 4 * k + 2)) (nI a - 1)))
theorem rr_zl1 {u : zz_S} {σ a b c : Nat} (hb : rr_fb σ a b c) (h : rr_hz u σ a b c) : ∀ (d i n : Nat), i + d = a → zf_ModuleFile_importsHold_b2 (n + d + 1) u (nI i) = some (rr_bi ((List.range' i d).all (rr_iB (u.2.1 3) σ)), u) := by
  obtain ⟨b1, b2, b3, b4, b5⟩ := hb
  intro d
  induction d with
  | zero =>
    intro i n e
    rw [zf_ModuleFile_importsHold_b2, if_pos (by rw [h.2.1]; exact nI_le (by omega) (by omega)), rr_nb1]
    rfl
  | succ d ih =>
    intro i n e
    rw [zf_ModuleFile_importsHold_b2, if_neg (by rw [h.2.1]; exact nI_ge (by omega) (by omega)), (rr_zin h (by omega)).1, rr_b2s, rr_isName, rr_b2s, List.range'_succ, List.all_cons]
    cases q : rr_nmB (u.2.1 3 (8 + σ + 2 * i))
    · rw [if_pos rr_bif, rr_nb0, rr_iB, q]
      rfl
    · rw [if_neg (by decide), rr_nm, nI_1, show n + (d + 1) = n + d + 1 from rfl, ih (i + 1) n (by omega), show rr_iB (u.2.1 3) σ i = true from q, Bool.true_and]
theorem rr_zl2 {u : zz_S} {σ a b c : Nat} (hb : rr_fb σ a b c) (h : rr_hz u σ a b c) {j : Nat} (hj : j < b) : ∀ (d i n : Nat), i + d = j → zf_ModuleFile_isExportedBefore_b2 (n + d + 1) u (nI j) (nI i) = some (rr_bi (!((List.range' i d).all (rr_xB (u.2.1 3) σ a j))), u) := by
  obtain ⟨b1, b2, b3, b4, b5⟩ := hb
  intro d
  induction d with
  | zero =>
    intro i n e
    rw [zf_ModuleFile_isExportedBefore_b2, if_pos (nI_le (by omega) (by omega)), rr_nb0]
    rfl
  | succ d ih =>
    intro i n e
    rw [zf_ModuleFile_isExportedBefore_b2, if_neg (nI_ge (by omega) (by omega)), (rr_zex h (by omega)).1, rr_b2s, (rr_zex h (by omega)).1, rr_b2s, List.range'_succ, List.all_cons]
    by_cases q : u.2.1 3 (8 + σ + 2 * a + 3 * i) = u.2.1 3 (8 + σ + 2 * a + 3 * j)
    · rw [if_pos q, rr_nb1, show rr_xB (u.2.1 3) σ a j i = false by rw [rr_xB, decide_eq_true q]; rfl]
      rfl
    · rw [if_neg q, rr_nm, nI_1, show n + (d + 1) = n + d + 1 from rfl, ih (i + 1) n (by omega), show rr_xB (u.2.1 3) σ a j i = true by rw [rr_xB, decide_eq_false q]; rfl, Bool.true_and]
theorem rr_zl3 {u : zz_S} {σ a b c : Nat} (hb : rr_fb σ a b c) (h : rr_hz u σ a b c) : ∀ (d j n : Nat), j + d = b → zf_ModuleFile_exportsHold_b2 (n + d + 1) u (nI j) = some (rr_bi ((List.range' j d).all (rr_eB (u.2.1 3) σ a)), u) := by
  have hb0 := hb
  obtain ⟨b1, b2, b3, b4, b5⟩ := hb
  intro d
  induction d with
  | zero =>
    intro i n e
    rw [zf_ModuleFile_exportsHold_b2, if_pos (by rw [h.2.2.1]; exact nI_le (by omega) (by omega)), rr_nb1]
    rfl
  | succ d ih =>
    intro j n e
    obtain ⟨x1, x2, x3⟩ := rr_zex h (i := j) (by omega)
    have hx : zf_ModuleFile_isExportedBefore u (nI j) = some (rr_bi (!((List.range' 0 j).all (rr_xB (u.2.1 3) σ a j))), u) := by
      have := rr_zl2 hb0 h (show j < b by omega) j 0 (4999 - j) (by omega)
      rw [show 4999 - j + j + 1 = xx_fu by unfold xx_fu; omega, nI_0] at this
      exact this
    rw [zf_ModuleFile_exportsHold_b2, if_neg (by rw [h.2.2.1]; exact nI_ge (by omega) (by omega)), x1, rr_b2s, rr_isName, rr_b2s, x3, rr_b2s, rr_isOffZ, rr_b2s, hx, rr_b2s, h.1, List.range'_succ, List.all_cons, rr_nm, nI_1, show n + (d + 1) = n + d + 1 from rfl, ih (j + 1) n (by omega)]
    cases q1 : rr_nmB (u.2.1 3 (8 + σ + 2 * a + 3 * j))
    · rw [if_pos rr_bif, zf_ModuleFile_exportsHold_b41, rr_nb0, rr_eB, q1]
      rfl
    rw [if_neg (by decide)]
    cases q2 : rr_woB (u.2.1 3 (8 + σ + 2 * a + 3 * j + 2)) (nI (4 * σ))
    · rw [if_pos rr_bif, zf_ModuleFile_exportsHold_b41, rr_nb0, rr_eB, q1, q2]
      rfl
    rw [if_neg (by decide), rr_eB, q1, q2]
    cases q3 : (List.range' 0 j).all (rr_xB (u.2.1 3) σ a j)
    · rw [if_neg (by decide), zf_ModuleFile_exportsHold_b41, rr_nb0]
      rfl
    · rw [if_pos (by decide)]
      rfl
theorem rr_zl4 {u : zz_S} {σ a b c : Nat} (hb : rr_fb σ a b c) (h : rr_hz u σ a b c) : ∀ (d k n : Nat), k + d = c → zf_ModuleFile_placesHold_b2 (n + d + 1) u (nI k) = some (rr_bi ((List.range' k d).all (rr_pB (u.2.1 3) σ a b)), u) := by
  obtain ⟨b1, b2, b3, b4, b5⟩ := hb
  intro d
  induction d with
  | zero =>
    intro i n e
    rw [zf_ModuleFile_placesHold_b2, if_pos (by rw [h.2.2.2.1]; exact nI_le (by omega) (by omega)), rr_nb1]
    rfl
  | succ d ih =>
    intro k n e
    obtain ⟨x1, x2, x3, x4⟩ := rr_zpl h (i := k) (by omega)
    have hy : ∀ y : Bool, zf_ModuleFile_placesHold_b41 (zf_ModuleFile_placesHold_b2 (n + d + 1)) u (nI k) (rr_bi y) = some (rr_bi ((rr_upB (u.2.1 3 (8 + σ + 2 * a + 3 * b + 4 * k)) 5 && (rr_woB (u.2.1 3 (8 + σ + 2 * a + 3 * b + 4 * k + 1)) (nI (4 * σ)) && y)) && (List.range' (k + 1) d).all (rr_pB (u.2.1 3) σ a b)), u) := fun y => by
      rw [zf_ModuleFile_placesHold_b41, x1, rr_b2s, rr_isUpTo, rr_b2s, x2, rr_b2s, rr_isOffZ, rr_b2s, h.1, rr_nm, nI_1, ih (k + 1) n (by omega), zf_ModuleFile_placesHold_b70, rr_nb0]
      cases q1 : rr_upB (u.2.1 3 (8 + σ + 2 * a + 3 * b + 4 * k)) 5
      · rw [if_pos rr_bif]; rfl
      rw [if_neg (by decide)]
      cases q2 : rr_woB (u.2.1 3 (8 + σ + 2 * a + 3 * b + 4 * k + 1)) (nI (4 * σ))
      · rw [if_pos rr_bif]; rfl
      rw [if_neg (by decide)]
      cases y
      · rw [if_pos rr_bif]; rfl
      · rw [if_neg (by decide)]; rfl
    rw [zf_ModuleFile_placesHold_b2, if_neg (by rw [h.2.2.2.1]; exact nI_ge (by omega) (by omega)), x3, rr_b2s, x3, rr_b2s, rr_isUpTo, rr_b2s, h.2.1, List.range'_succ, List.all_cons, show n + (d + 1) = n + d + 1 from rfl, zf_ModuleFile_placesHold_b36, show (1 : Int32) = rr_bi true from rfl, hy true, show (0 : Int32) = rr_bi false from rfl, hy false, show rr_bi true = (1 : Int32) from rfl, rr_pB]
    by_cases q : u.2.1 3 (8 + σ + 2 * a + 3 * b + 4 * k + 2) = -1
    · rw [if_pos q, decide_eq_true q, Bool.true_or]
    · rw [if_neg q, decide_eq_false q, Bool.false_or]
      cases q2 : rr_upB (u.2.1 3 (8 + σ + 2 * a + 3 * b + 4 * k + 2)) (nI a - 1)
      · rw [if_pos rfl]
      · rw [if_neg (by decide)]
/-! the same in the reference -/
theorem rr_ql1 {w : qm_S} {W : Nat → Int32} {N σ a b c : Nat} (hb : rr_fb σ a b c) (h : rr_hq w σ a b c) (ht : rr_tw W (w.2 13) N) (hN : N ≤ 1200) (hn : N = 4 * (8 + σ + 2 * a + 3 * b + 4 * c)) : ∀ (d i n : Nat) (acc : Bool), i + d = a → qf_Model_isFile_b267 (n + d + 1) w (rr_bi acc) (nI i) = qf_Model_isFile_b308 xx_fu w (rr_bi (acc && (List.range' i d).all (rr_iB W σ))) 0 := by
  obtain ⟨b1, b2, b3, b4, b5⟩ := hb
  intro d
  induction d with
  | zero =>
    intro i n acc e
    rw [qf_Model_isFile_b267, if_pos (by rw [h.2.1]; exact nI_le (by omega) (by omega)), rr_nm, List.range'_zero, List.all_nil, Bool.and_true]
  | succ d ih =>
    intro i n acc e
    have y0 : qf_Model_isFile_b298 (qf_Model_isFile_b267 (n + d + 1)) w (nI i) = qf_Model_isFile_b267 (n + d + 1) w (rr_bi false) (nI (i + 1)) := by
      rw [qf_Model_isFile_b298, qf_Model_isFile_b299, rr_nm, nI_1]; rfl
    have y1 : qf_Model_isFile_b299 (qf_Model_isFile_b267 (n + d + 1)) w (nI i) 1 = qf_Model_isFile_b267 (n + d + 1) w (rr_bi true) (nI (i + 1)) := by
      rw [qf_Model_isFile_b299, rr_nm, nI_1]; rfl
    have st : qf_Model_isFile_b267 (n + (d + 1) + 1) w (rr_bi acc) (nI i) = qf_Model_isFile_b267 (n + d + 1) w (rr_bi (acc && rr_iB W σ i)) (nI (i + 1)) := by
      rw [qf_Model_isFile_b267, if_neg (by rw [h.2.1]; exact nI_ge (by omega) (by omega)), rr_imA h, rr_b2s, rr_tq ht hN (by omega), rr_b2s, rr_isNameq, rr_b2s, show n + (d + 1) = n + d + 1 from rfl, y0, y1]
      cases acc
      · rw [if_pos rr_bif]; rfl
      · rw [if_neg (by decide), Bool.true_and, rr_iB]
        cases q : rr_nmB (W (8 + σ + 2 * i))
        · rw [if_pos rr_bif]
        · rw [if_neg (by decide)]
    rw [st, ih (i + 1) n _ (by omega), List.range'_succ, List.all_cons, Bool.and_assoc]
theorem rr_ql2 {w : qm_S} {W : Nat → Int32} {N σ a b c : Nat} (hb : rr_fb σ a b c) (h : rr_hq w σ a b c) (ht : rr_tw W (w.2 13) N) (hN : N ≤ 1200) (hn : N = 4 * (8 + σ + 2 * a + 3 * b + 4 * c)) {j : Nat} (hj : j < b) (rec : qm_S → Int32 → Int32 → Option (Int32 × qm_S)) : ∀ (d i n : Nat) (acc : Bool), i + d = j → qf_Model_isFile_b367 rec (n + d + 1) w (rr_bi acc) (nI j) (nI (4 * (8 + σ + 2 * a + 3 * j))) (nI i) = rec w (rr_bi (acc && (List.range' i d).all (rr_xB W σ a j))) (nI (j + 1)) := by
  obtain ⟨b1, b2, b3, b4, b5⟩ := hb
  intro d
  induction d with
  | zero =>
    intro i n acc e
    rw [qf_Model_isFile_b367, if_pos (nI_le (by omega) (by omega)), rr_nm, nI_1, List.range'_zero, List.all_nil, Bool.and_true]
  | succ d ih =>
    intro i n acc e
    have y0 : qf_Model_isFile_b400 rec (qf_Model_isFile_b367 rec (n + d + 1)) w (nI j) (nI (4 * (8 + σ + 2 * a + 3 * j))) (nI i) = qf_Model_isFile_b367 rec (n + d + 1) w (rr_bi false) (nI j) (nI (4 * (8 + σ + 2 * a + 3 * j))) (nI (i + 1)) := by
      rw [qf_Model_isFile_b400, qf_Model_isFile_b401, rr_nm, nI_1]; rfl
    have y1 : qf_Model_isFile_b401 rec (qf_Model_isFile_b367 rec (n + d + 1)) w (nI j) (nI (4 * (8 + σ + 2 * a + 3 * j))) (nI i) 1 = qf_Model_isFile_b367 rec (n + d + 1) w (rr_bi true) (nI j) (nI (4 * (8 + σ + 2 * a + 3 * j))) (nI (i + 1)) := by
      rw [qf_Model_isFile_b401, rr_nm, nI_1]; rfl
    have st : qf_Model_isFile_b367 rec (n + (d + 1) + 1) w (rr_bi acc) (nI j) (nI (4 * (8 + σ + 2 * a + 3 * j))) (nI i) = qf_Model_isFile_b367 rec (n + d + 1) w (rr_bi (acc && rr_xB W σ a j i)) (nI j) (nI (4 * (8 + σ + 2 * a + 3 * j))) (nI (i + 1)) := by
      rw [qf_Model_isFile_b367, if_neg (nI_ge (by omega) (by omega)), rr_exA h, rr_b2s, rr_tq ht hN (by omega), rr_b2s, rr_tq ht hN (by omega), rr_b2s, show n + (d + 1) = n + d + 1 from rfl, y0, y1]
      cases acc
      · rw [if_pos rr_bif]; rfl
      · rw [if_neg (by decide), Bool.true_and, rr_xB]
        by_cases q : W (8 + σ + 2 * a + 3 * i) = W (8 + σ + 2 * a + 3 * j)
        · rw [if_pos q, decide_eq_true q]; rfl
        · rw [if_neg q, decide_eq_false q]; rfl
    rw [st, ih (i + 1) n _ (by omega), List.range'_succ, List.all_cons, Bool.and_assoc]
theorem rr_ql3 {w : qm_S} {W : Nat → Int32} {N σ a b c : Nat} (hb : rr_fb σ a b c) (h : rr_hq w σ a b c) (ht : rr_tw W (w.2 13) N) (hN : N ≤ 1200) (hn : N = 4 * (8 + σ + 2 * a + 3 * b + 4 * c)) : ∀ (d j n : Nat) (acc : Bool), j + d = b → qf_Model_isFile_b308 (n + d + 1) w (rr_bi acc) (nI j) = qf_Model_isFile_b416 xx_fu w (rr_bi (acc && (List.range' j d).all (rr_eB W σ a))) 0 := by
  have hb0 := hb
  obtain ⟨b1, b2, b3, b4, b5⟩ := hb
  intro d
  induction d with
  | zero =>
    intro j n acc e
    rw [qf_Model_isFile_b308, if_pos (by rw [h.2.2.1]; exact nI_le (by omega) (by omega)), rr_nm, List.range'_zero, List.all_nil, Bool.and_true]
  | succ d ih =>
    intro j n acc e
    have y : ∀ acc : Bool, qf_Model_isFile_b363 (qf_Model_isFile_b308 (n + d + 1)) w (nI j) (nI (4 * (8 + σ + 2 * a + 3 * j))) (rr_bi acc) = qf_Model_isFile_b308 (n + d + 1) w (rr_bi (acc && (List.range' 0 j).all (rr_xB W σ a j))) (nI (j + 1)) := fun acc => by
      have := rr_ql2 hb0 h ht hN hn (show j < b by omega) (qf_Model_isFile_b308 (n + d + 1)) j 0 (4999 - j) acc (by omega)
      rw [show 4999 - j + j + 1 = xx_fu by unfold xx_fu; omega, nI_0] at this
      rw [qf_Model_isFile_b363, rr_nm, this]
    have st : qf_Model_isFile_b308 (n + (d + 1) + 1) w (rr_bi acc) (nI j) = qf_Model_isFile_b308 (n + d + 1) w (rr_bi (acc && rr_eB W σ a j)) (nI (j + 1)) := by
      rw [qf_Model_isFile_b308, if_neg (by rw [h.2.2.1]; exact nI_ge (by omega) (by omega)), rr_exA h, rr_b2s, rr_tq ht hN (by omega), rr_b2s, rr_isNameq, rr_b2s, show (8 : Int32) = nI (4 * 2) from rfl, rr_p4, rr_tq ht hN (by omega), rr_b2s, h.1, rr_isOffset, rr_b2s, show n + (d + 1) = n + d + 1 from rfl, qf_Model_isFile_b362, show (0 : Int32) = rr_bi false from rfl, y false, show (1 : Int32) = rr_bi true from rfl, y true, rr_eB]
      cases acc
      · rw [if_pos rfl]; rfl
      rw [if_neg (by decide)]
      cases q1 : rr_nmB (W (8 + σ + 2 * a + 3 * j))
      · rw [if_pos rfl]; rfl
      rw [if_neg (by decide)]
      cases q2 : rr_woB (W (8 + σ + 2 * a + 3 * j + 2)) (nI (4 * σ))
      · rw [if_pos rfl]; rfl
      rw [if_neg (by decide)]
      rfl
    rw [st, ih (j + 1) n _ (by omega), List.range'_succ, List.all_cons, Bool.and_assoc]
theorem rr_srcE {x : Int32} {a : Nat} (ha : a ≤ 8) : (decide (x = -1) || rr_upB x (nI a - 1)) = (!(decide (x < -1)) && !(decide (nI a ≤ x))) := by
  by_cases c : x < 0
  · have e1 : ¬ nI a ≤ x := fun z => absurd (Int32.le_trans (nI_pos' (show a < 2 ^ 31 by omega)) z) (Int32.not_le.mpr c)
    by_cases e : x = -1
    · have e2 : ¬ x < -1 := by rw [e]; decide
      simp [e, e1, e2, rr_upB]
      rw [e] at e1
      exact Int32.not_le.mp e1
    · have e2 : x < -1 := by
        have h1 := Int32.lt_iff_toInt_lt.mp c
        rw [Int32.lt_iff_toInt_lt]
        have h2 : ¬ x.toInt = -1 := fun z => e (Int32.toInt_inj.mp z)
        have h3 : (0 : Int32).toInt = 0 := by decide
        have h4 : (-1 : Int32).toInt = -1 := by decide
        omega
      simp [e, e2, rr_upB, c]
  · obtain ⟨t, ht, rfl⟩ := nI_of c
    have e1 : ¬ nI t = -1 := fun z => by rw [z] at c; exact c (by decide)
    have e2 : ¬ nI t < -1 := fun z => c (Int32.lt_trans z (by decide))
    have e3 : (nI a - 1 < nI t) ↔ nI a ≤ nI t := by
      cases a with
      | zero =>
        have h1 : (nI 0 - 1 : Int32) = -1 := by decide
        rw [h1, nI_0]
        refine ⟨fun _ => nI_pos' ht, fun _ => ?_⟩
        exact Int32.lt_of_lt_of_le (by decide) (nI_pos' ht)
      | succ a =>
        rw [nI_pred, nI_ltI (by omega) ht, nI_leI (by omega) ht]
        omega
    by_cases q : nI a ≤ nI t
    · simp [e1, e2, rr_upB, c, e3, q]
    · simp [e1, e2, rr_upB, c, e3, q]
theorem rr_ql4 {w : qm_S} {W : Nat → Int32} {N σ a b c : Nat} (hb : rr_fb σ a b c) (h : rr_hq w σ a b c) (ht : rr_tw W (w.2 13) N) (hN : N ≤ 1200) (hn : N = 4 * (8 + σ + 2 * a + 3 * b + 4 * c)) : ∀ (d k n : Nat) (acc : Bool), k + d = c → qf_Model_isFile_b416 (n + d + 1) w (rr_bi acc) (nI k) = some (rr_bi (acc && (List.range' k d).all (rr_pB W σ a b)), w) := by
  obtain ⟨b1, b2, b3, b4, b5⟩ := hb
  intro d
  induction d with
  | zero =>
    intro k n acc e
    rw [qf_Model_isFile_b416, if_pos (by rw [h.2.2.2]; exact nI_le (by omega) (by omega)), List.range'_zero, List.all_nil, Bool.and_true, rr_nbb]
  | succ d ih =>
    intro k n acc e
    have y0 : qf_Model_isFile_b502 (qf_Model_isFile_b416 (n + d + 1)) w (nI k) = qf_Model_isFile_b416 (n + d + 1) w (rr_bi false) (nI (k + 1)) := by
      rw [qf_Model_isFile_b502, qf_Model_isFile_b503, rr_nm, nI_1]; rfl
    have y1 : qf_Model_isFile_b503 (qf_Model_isFile_b416 (n + d + 1)) w (nI k) 1 = qf_Model_isFile_b416 (n + d + 1) w (rr_bi true) (nI (k + 1)) := by
      rw [qf_Model_isFile_b503, rr_nm, nI_1]; rfl
    have st : qf_Model_isFile_b416 (n + (d + 1) + 1) w (rr_bi acc) (nI k) = qf_Model_isFile_b416 (n + d + 1) w (rr_bi (acc && rr_pB W σ a b k)) (nI (k + 1)) := by
      rw [qf_Model_isFile_b416, if_neg (by rw [h.2.2.2]; exact nI_ge (by omega) (by omega)), rr_plA h, rr_b2s, show (8 : Int32) = nI (4 * 2) from rfl, rr_p4, rr_tq ht hN (by omega), rr_b2s, rr_tq ht hN (by omega), rr_b2s, rr_tq ht hN (by omega), rr_b2s, show (4 : Int32) = nI (4 * 1) from rfl, rr_p4, rr_tq ht hN (by omega), rr_b2s, h.1, rr_isOffset, rr_b2s, h.2.1, show n + (d + 1) = n + d + 1 from rfl, y0, y1, rr_pB, rr_srcE b3, rr_upI2]
      cases acc
      · rw [if_pos rr_bif]; rfl
      rw [if_neg (by decide)]
      cases q1 : rr_upB (W (8 + σ + 2 * a + 3 * b + 4 * k)) 5
      · rw [if_neg (by decide)]; rfl
      rw [if_pos rfl]
      cases q2 : rr_woB (W (8 + σ + 2 * a + 3 * b + 4 * k + 1)) (nI (4 * σ))
      · rw [if_pos rr_bif]; rfl
      rw [if_neg (by decide)]
      by_cases q3 : W (8 + σ + 2 * a + 3 * b + 4 * k + 2) < -1
      · rw [if_pos q3, decide_eq_true q3]; rfl
      rw [if_neg q3, decide_eq_false q3]
      by_cases q4 : nI a ≤ W (8 + σ + 2 * a + 3 * b + 4 * k + 2)
      · rw [if_pos q4, decide_eq_true q4]; rfl
      · rw [if_neg q4, decide_eq_false q4]; rfl
    rw [st, ih (k + 1) n _ (by omega), List.range'_succ, List.all_cons, Bool.and_assoc]
