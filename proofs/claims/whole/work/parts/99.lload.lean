/-! read and isFile -/
def rr_zh (u : zz_S) : zz_S := (va_up (va_up (va_up (va_up (va_up (va_up (va_up u.1 5 (u.2.1 3 1)) 6 (u.2.1 3 2)) 7 (u.2.1 3 3)) 8 (u.2.1 3 4)) 9 (u.2.1 3 5)) 10 (u.2.1 3 6)) 11 (u.2.1 3 7), u.2)
def rr_zs (u : zz_S) (σ a b : Nat) : zz_S := (va_up (va_up (va_up (rr_zh u).1 12 (nI (8 + σ))) 13 (nI (8 + σ + 2 * a))) 14 (nI (8 + σ + 2 * a + 3 * b)), u.2)
def rr_qh (w : qm_S) (W : Nat → Int32) : qm_S := (va_up (va_up (va_up (va_up (va_up (va_up (va_up w.1 26 (W 1)) 23 (W 2)) 24 (W 3)) 25 (W 4)) 27 (W 5)) 28 (W 6)) 29 (W 7), w.2)
theorem rr_rhZ (u : zz_S) : zf_ModuleFile_readHeader u = some (rr_zh u) := by
  unfold zf_ModuleFile_readHeader
  rw [show (1 : Int32) = nI 1 from rfl, rr_tz _ (by decide), rr_b2s, rr_nm, show (2 : Int32) = nI 2 from rfl, rr_tz _ (by decide), rr_b2s, rr_nm, show (3 : Int32) = nI 3 from rfl, rr_tz _ (by decide), rr_b2s, rr_nm, show (4 : Int32) = nI 4 from rfl, rr_tz _ (by decide), rr_b2s, rr_nm, show (5 : Int32) = nI 5 from rfl, rr_tz _ (by decide), rr_b2s, rr_nm, show (6 : Int32) = nI 6 from rfl, rr_tz _ (by decide), rr_b2s, rr_nm, show (7 : Int32) = nI 7 from rfl, rr_tz _ (by decide), rr_b2s, rr_nm]
  rfl
theorem rr_rhQ (w : qm_S) {W : Nat → Int32} {n : Nat} (hn : n ≤ 1200) (h32 : 32 ≤ n) (ht : rr_tw W (w.2 13) n) (hm : W 0 = 1297040469) : qf_Model_isFile w (nI n) = qf_Model_isFile_b246 (rr_qh w W) (nI n) (rr_bi (rr_hdB (W 1) (W 2) (W 3) (W 4) (W 5) (W 6) (W 7))) := by
  have e := rr_hdQ (rr_qh w W) (nI n)
  unfold qf_Model_isFile
  rw [if_neg (show ¬ nI n < (32 : Int32) from nI_nlt (b := 32) h32 (by omega)), show qf_Model_tapeWord w (0 : Int32) = some (W 0, w) from rr_tq (i := 0) ht hn (by omega), rr_b2s, if_pos hm]
  rw [show qf_Model_tapeWord w (4 : Int32) = some (W 1, w) from rr_tq (i := 1) ht hn (by omega), rr_b2s, rr_nm]
  rw [show ∀ y, qf_Model_tapeWord (y, w.2) (8 : Int32) = some (W 2, (y, w.2)) from fun y => rr_tq (w := (y, w.2)) (i := 2) ht hn (by omega), rr_b2s, rr_nm]
  rw [show ∀ y, qf_Model_tapeWord (y, w.2) (12 : Int32) = some (W 3, (y, w.2)) from fun y => rr_tq (w := (y, w.2)) (i := 3) ht hn (by omega), rr_b2s, rr_nm]
  rw [show ∀ y, qf_Model_tapeWord (y, w.2) (16 : Int32) = some (W 4, (y, w.2)) from fun y => rr_tq (w := (y, w.2)) (i := 4) ht hn (by omega), rr_b2s, rr_nm]
  rw [show ∀ y, qf_Model_tapeWord (y, w.2) (20 : Int32) = some (W 5, (y, w.2)) from fun y => rr_tq (w := (y, w.2)) (i := 5) ht hn (by omega), rr_b2s, rr_nm]
  rw [show ∀ y, qf_Model_tapeWord (y, w.2) (24 : Int32) = some (W 6, (y, w.2)) from fun y => rr_tq (w := (y, w.2)) (i := 6) ht hn (by omega), rr_b2s, rr_nm]
  rw [show ∀ y, qf_Model_tapeWord (y, w.2) (28 : Int32) = some (W 7, (y, w.2)) from fun y => rr_tq (w := (y, w.2)) (i := 7) ht hn (by omega), rr_b2s, rr_nm]
  exact e
theorem rr_zhk (u : zz_S) {k : Nat} (h : k < 5 ∨ 14 < k) : (rr_zh u).1 k = u.1 k := by
  show va_up (va_up (va_up (va_up (va_up (va_up (va_up u.1 5 _) 6 _) 7 _) 8 _) 9 _) 10 _) 11 _ k = u.1 k
  rw [rr_upN _ _ (by omega), rr_upN _ _ (by omega), rr_upN _ _ (by omega), rr_upN _ _ (by omega), rr_upN _ _ (by omega), rr_upN _ _ (by omega), rr_upN _ _ (by omega)]
theorem rr_zsk (u : zz_S) (σ a b : Nat) {k : Nat} (h : k < 5 ∨ 14 < k) : (rr_zs u σ a b).1 k = u.1 k := by
  show va_up (va_up (va_up (rr_zh u).1 12 _) 13 _) 14 _ k = u.1 k
  rw [rr_upN _ _ (by omega), rr_upN _ _ (by omega), rr_upN _ _ (by omega), rr_zhk u h]
theorem rr_qhk (w : qm_S) (W : Nat → Int32) {k : Nat} (h : k < 23 ∨ 29 < k) : (rr_qh w W).1 k = w.1 k := by
  show va_up (va_up (va_up (va_up (va_up (va_up (va_up w.1 26 _) 23 _) 24 _) 25 _) 27 _) 28 _) 29 _ k = w.1 k
  rw [rr_upN _ _ (by omega), rr_upN _ _ (by omega), rr_upN _ _ (by omega), rr_upN _ _ (by omega), rr_upN _ _ (by omega), rr_upN _ _ (by omega), rr_upN _ _ (by omega)]
/-- what a good file says; γ guarded words -/
def rr_ff (u1 : zz_S) (w1 : qm_S) (W : Nat → Int32) (n σ a b c γ : Nat) : Prop := rr_fb σ a b c ∧ γ ≤ σ ∧ rr_hz u1 σ a b c ∧ rr_hq w1 σ a b c ∧ n = 4 * (8 + σ + 2 * a + 3 * b + 4 * c) ∧ (u1.1 9 = W 5 ∧ w1.1 27 = W 5 ∧ u1.1 10 = W 6 ∧ w1.1 28 = W 6 ∧ u1.1 11 = nI (4 * γ) ∧ w1.1 29 = nI (4 * γ)) ∧ (W 5 = -1 ∨ rr_woB (W 5) (nI (4 * σ)) = true) ∧ (W 6 = -1 ∨ rr_woB (W 6) (nI (4 * σ)) = true) ∧ (∀ i, i < a → rr_iB W σ i = true) ∧ (∀ j, j < b → rr_eB W σ a j = true) ∧ ∀ k, k < c → rr_pB W σ a b k = true
theorem rr_allr {p : Nat → Bool} {n : Nat} (h : (List.range' 0 n).all p = true) : ∀ i, i < n → p i = true := by
  rw [← List.range_eq_range', List.all_eq_true] at h
  exact fun i hi => h i (List.mem_range.mpr hi)
theorem rr_read {u : zz_S} {w : qm_S} {n : Nat} (hu : u.1 4 = nI n) (hn : n ≤ 1200) (ht : rr_tw (u.2.1 3) (w.2 13) n) : ∃ (B : Bool) (u1 : zz_S) (w1 : qm_S), zf_ModuleFile_read u = some (rr_bi B, u1) ∧ qf_Model_isFile w (nI n) = some (rr_bi B, w1) ∧ u1.2 = u.2 ∧ w1.2 = w.2 ∧ (∀ k, k < 5 ∨ 14 < k → u1.1 k = u.1 k) ∧ (∀ k, k < 23 ∨ 29 < k → w1.1 k = w.1 k) ∧ (B = true → ∃ σ a b c γ, rr_ff u1 w1 (u.2.1 3) n σ a b c γ) := by
  unfold zf_ModuleFile_read
  rw [zf_Tape_length, rr_b2s, hu]
  by_cases c1 : n < 32
  · refine ⟨false, u, w, ?_, ?_, rfl, rfl, fun _ _ => rfl, fun _ _ => rfl, fun h => (by cases h)⟩
    · rw [if_pos (show nI n < (32 : Int32) from nI_lt (b := 32) c1 (by decide)), zf_ModuleFile_read_b25, rr_nb0]; rfl
    · unfold qf_Model_isFile
      rw [if_pos (show nI n < (32 : Int32) from nI_lt (b := 32) c1 (by decide)), qf_Model_isFile_b16, rr_nb0]; rfl
  rw [if_neg (show ¬ nI n < (32 : Int32) from nI_nlt (b := 32) (by omega) (by omega)), show zf_Tape_wordAt u (0 : Int32) = some (u.2.1 3 0, u) from rr_tz (i := 0) u (by decide), rr_b2s]
  by_cases c2 : u.2.1 3 0 = 1297040469
  · rw [if_pos c2, rr_rhZ, Option.bind_some, rr_hdZ, rr_b2s, rr_rhQ w hn (by omega) ht c2]
    have ez : rr_hdB ((rr_zh u).1 5) ((rr_zh u).1 6) ((rr_zh u).1 7) ((rr_zh u).1 8) ((rr_zh u).1 9) ((rr_zh u).1 10) ((rr_zh u).1 11) = rr_hdB (u.2.1 3 1) (u.2.1 3 2) (u.2.1 3 3) (u.2.1 3 4) (u.2.1 3 5) (u.2.1 3 6) (u.2.1 3 7) := rfl
    rw [ez]
    cases c3 : rr_hdB (u.2.1 3 1) (u.2.1 3 2) (u.2.1 3 3) (u.2.1 3 4) (u.2.1 3 5) (u.2.1 3 6) (u.2.1 3 7)
    · refine ⟨false, rr_zh u, rr_qh w (u.2.1 3), ?_, ?_, rfl, rfl, fun k hk => rr_zhk u hk, fun k hk => rr_qhk w _ hk, fun h => (by cases h)⟩
      · rw [if_pos rr_bif, rr_nb0]; rfl
      · rw [qf_Model_isFile_b246, if_pos rr_bif, qf_Model_isFile_b263, rr_nb0]; rfl
    · obtain ⟨σ, a, b, c, γ, ⟨b1, b2, b3, b4, b5, b6⟩, e1, e2, e3, e4, e5, e6, e7⟩ := rr_hdN c3
      have hb : rr_fb σ a b c := ⟨b1, b2, b3, b4, b5⟩
      have hz : rr_hz (rr_zs u σ a b) σ a b c := ⟨e1, e2, e3, e4, rfl, rfl, rfl⟩
      have hq : rr_hq (rr_qh w (u.2.1 3)) σ a b c := ⟨e1, e2, e3, e4⟩
      have z1 : (8 : Int32) + (rr_zh u).1 5 / (4 : Int32) = nI (8 + σ) := by
        rw [show (rr_zh u).1 5 = nI (4 * σ) from e1, show (4 : Int32) = nI 4 from rfl, show (8 : Int32) = nI 8 from rfl, pk_div (by omega) (by decide) (by decide), nI_add, show 4 * σ / 4 = σ by omega]
      have z2 : nI (8 + σ) + (2 : Int32) * (rr_zh u).1 6 = nI (8 + σ + 2 * a) := by
        rw [show (rr_zh u).1 6 = nI a from e2, show (2 : Int32) = nI 2 from rfl, pk_mul, nI_add]
      have z3 : nI (8 + σ + 2 * a) + (3 : Int32) * (rr_zh u).1 7 = nI (8 + σ + 2 * a + 3 * b) := by
        rw [show (rr_zh u).1 7 = nI b from e3, show (3 : Int32) = nI 3 from rfl, pk_mul, nI_add]
      have z4 : (4 : Int32) * (nI (8 + σ + 2 * a + 3 * b) + (4 : Int32) * (rr_zh u).1 8) = nI (4 * (8 + σ + 2 * a + 3 * b + 4 * c)) := by
        rw [show (rr_zh u).1 8 = nI c from e4, show (4 : Int32) = nI 4 from rfl, pk_mul, nI_add, pk_mul]
      rw [if_neg (by decide), rr_nm, rr_nm, rr_nm, rr_nm, rr_nm, rr_nm, rr_nm, zf_Tape_length, rr_b2s, z1]
      have hlen : ((rr_zs u σ a b) : zz_S).1 4 = nI n := hu
      have goalz : ∀ (X : Option (Int32 × zz_S)), (if (rr_zs u σ a b).1 4 = (4 : Int32) * (nI (8 + σ + 2 * a + 3 * b) + (4 : Int32) * (rr_zh u).1 8) then (xx_b2 (zf_ModuleFile_importsHold (rr_zs u σ a b)) fun v18 u17 => if v18 = 0 then (zf_ModuleFile_read_b133 u17) else (xx_b2 (zf_ModuleFile_exportsHold u17) fun v20 u19 => if v20 = 0 then (zf_ModuleFile_read_b133 u19) else (xx_b2 (zf_ModuleFile_placesHold u19) fun v22 u21 => if v22 = 0 then (zf_ModuleFile_read_b133 u21) else (zf_ModuleFile_read_b134 u21 (1 : Int32))))) else (zf_ModuleFile_read_b133 (rr_zs u σ a b))) = X → (if (va_up (va_up (va_up (rr_zh u).1 12 (nI (8 + σ))) 13 (nI (8 + σ) + (2 : Int32) * (rr_zh u).1 6)) 14 ((nI (8 + σ) + (2 : Int32) * (rr_zh u).1 6) + (3 : Int32) * (rr_zh u).1 7)) 4 = (4 : Int32) * (((nI (8 + σ) + (2 : Int32) * (rr_zh u).1 6) + (3 : Int32) * (rr_zh u).1 7) + (4 : Int32) * (rr_zh u).1 8) then (xx_b2 (zf_ModuleFile_importsHold (va_up (va_up (va_up (rr_zh u).1 12 (nI (8 + σ))) 13 (nI (8 + σ) + (2 : Int32) * (rr_zh u).1 6)) 14 ((nI (8 + σ) + (2 : Int32) * (rr_zh u).1 6) + (3 : Int32) * (rr_zh u).1 7), u.2)) fun v18 u17 => if v18 = 0 then (zf_ModuleFile_read_b133 u17) else (xx_b2 (zf_ModuleFile_exportsHold u17) fun v20 u19 => if v20 = 0 then (zf_ModuleFile_read_b133 u19) else (xx_b2 (zf_ModuleFile_placesHold u19) fun v22 u21 => if v22 = 0 then (zf_ModuleFile_read_b133 u21) else (zf_ModuleFile_read_b134 u21 (1 : Int32))))) else (zf_ModuleFile_read_b133 (va_up (va_up (va_up (rr_zh u).1 12 (nI (8 + σ))) 13 (nI (8 + σ) + (2 : Int32) * (rr_zh u).1 6)) 14 ((nI (8 + σ) + (2 : Int32) * (rr_zh u).1 6) + (3 : Int32) * (rr_zh u).1 7), u.2))) = X := fun X h => by
        rw [z2, z3]
        exact h
      have fr : (rr_zs u σ a b).2 = u.2 ∧ (rr_qh w (u.2.1 3)).2 = w.2 ∧ (∀ k, k < 5 ∨ 14 < k → (rr_zs u σ a b).1 k = u.1 k) ∧ (∀ k, k < 23 ∨ 29 < k → (rr_qh w (u.2.1 3)).1 k = w.1 k) := ⟨rfl, rfl, fun k hk => rr_zsk u σ a b hk, fun k hk => rr_qhk w _ hk⟩
      have ht' : rr_tw (u.2.1 3) ((rr_qh w (u.2.1 3)).2 13) n := ht
      by_cases c4 : n = 4 * (8 + σ + 2 * a + 3 * b + 4 * c)
      · have l1 := rr_zl1 hb hz a 0 (4999 - a) (by omega)
        have l3 := rr_zl3 hb hz b 0 (4999 - b) (by omega)
        have l4 := rr_zl4 hb hz c 0 (4999 - c) (by omega)
        rw [show 4999 - a + a + 1 = xx_fu by unfold xx_fu; omega, nI_0] at l1
        rw [show 4999 - b + b + 1 = xx_fu by unfold xx_fu; omega, nI_0] at l3
        rw [show 4999 - c + c + 1 = xx_fu by unfold xx_fu; omega, nI_0] at l4
        have k1 := rr_ql1 hb hq ht' hn c4 a 0 (4999 - a) true (by omega)
        have k3 := rr_ql3 hb hq ht' hn c4 b 0 (4999 - b) ((List.range' 0 a).all (rr_iB (u.2.1 3) σ)) (by omega)
        have k4 := rr_ql4 hb hq ht' hn c4 c 0 (4999 - c) ((List.range' 0 a).all (rr_iB (u.2.1 3) σ) && (List.range' 0 b).all (rr_eB (u.2.1 3) σ a)) (by omega)
        rw [show 4999 - a + a + 1 = xx_fu by unfold xx_fu; omega, nI_0, Bool.true_and] at k1
        rw [show 4999 - b + b + 1 = xx_fu by unfold xx_fu; omega, nI_0] at k3
        rw [show 4999 - c + c + 1 = xx_fu by unfold xx_fu; omega, nI_0] at k4
        refine ⟨((List.range' 0 a).all (rr_iB (u.2.1 3) σ) && (List.range' 0 b).all (rr_eB (u.2.1 3) σ a)) && (List.range' 0 c).all (rr_pB (u.2.1 3) σ a b), rr_zs u σ a b, rr_qh w (u.2.1 3), goalz _ ?_, ?_, fr.1, fr.2.1, fr.2.2.1, fr.2.2.2, fun h => ?_⟩
        · rw [z4, hlen, if_pos (by rw [c4]), zf_ModuleFile_importsHold, rr_nm, l1, rr_b2s, zf_ModuleFile_exportsHold, rr_nm, l3, rr_b2s, zf_ModuleFile_placesHold, rr_nm, l4, rr_b2s, zf_ModuleFile_read_b133, zf_ModuleFile_read_b134, zf_ModuleFile_read_b134, rr_nb0, rr_nb1]
          show (if rr_bi ((List.range' 0 a).all (rr_iB (u.2.1 3) σ)) = 0 then _ else if rr_bi ((List.range' 0 b).all (rr_eB (u.2.1 3) σ a)) = 0 then _ else if rr_bi ((List.range' 0 c).all (rr_pB (u.2.1 3) σ a b)) = 0 then _ else _) = _
          cases q1 : (List.range' 0 a).all (rr_iB (u.2.1 3) σ)
          · rw [if_pos rr_bif]; rfl
          rw [if_neg (by decide)]
          cases q2 : (List.range' 0 b).all (rr_eB (u.2.1 3) σ a)
          · rw [if_pos rr_bif]; rfl
          rw [if_neg (by decide)]
          cases q3 : (List.range' 0 c).all (rr_pB (u.2.1 3) σ a b)
          · rw [if_pos rr_bif]; rfl
          rw [if_neg (by decide)]
          rfl
        · rw [qf_Model_isFile_b246, if_neg (by decide), hq.2.2.2, rr_plA hq, rr_b2s, if_pos (by rw [c4]), rr_nm, k1, k3, k4]
        · rw [Bool.and_eq_true, Bool.and_eq_true] at h
          refine ⟨σ, a, b, c, γ, hb, b6, hz, hq, c4, ⟨rfl, rfl, rfl, rfl, e5, e5⟩, ?_, ?_, rr_allr h.1.1, rr_allr h.1.2, rr_allr h.2⟩
          · rw [← e1]; exact e6
          · rw [← e1]; exact e7
      · refine ⟨false, rr_zs u σ a b, rr_qh w (u.2.1 3), goalz _ ?_, ?_, fr.1, fr.2.1, fr.2.2.1, fr.2.2.2, fun h => (by cases h)⟩
        · rw [z4, hlen, if_neg (fun z => c4 ((nI_eq (by omega) (by omega)).mp z)), zf_ModuleFile_read_b133, zf_ModuleFile_read_b134, rr_nb0]
          rfl
        · rw [qf_Model_isFile_b246, if_neg (by decide), hq.2.2.2, rr_plA hq, rr_b2s, if_neg (fun z => c4 ((nI_eq (by omega) (by omega)).mp z)), qf_Model_isFile_b263, rr_nb0]
          rfl
  · refine ⟨false, u, w, ?_, ?_, rfl, rfl, fun _ _ => rfl, fun _ _ => rfl, fun h => (by cases h)⟩
    · rw [if_neg c2, zf_ModuleFile_read_b25, rr_nb0]; rfl
    · unfold qf_Model_isFile
      rw [if_neg (show ¬ nI n < (32 : Int32) from nI_nlt (b := 32) (by omega) (by omega)), show qf_Model_tapeWord w (0 : Int32) = some (u.2.1 3 0, w) from rr_tq (i := 0) ht hn (by omega), rr_b2s, if_neg c2, qf_Model_isFile_b16, rr_nb0]; rfl
