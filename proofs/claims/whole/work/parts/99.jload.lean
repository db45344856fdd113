/-! the file on the tape: its words, its head -/
def rr_upB (x y : Int32) : Bool := !(decide (x < 0)) && !(decide (y < x))
theorem rr_isUpTo (u : zz_S) (x y : Int32) : zf_ModuleFile_isUpTo u x y = some (rr_bi (rr_upB x y), u) := by
  simp only [zf_ModuleFile_isUpTo, zf_ModuleFile_isUpTo_b13, zf_ModuleFile_isUpTo_b14, rr_nb0, rr_nb1, rr_upB]
  by_cases a : x < 0 <;> by_cases b : y < x <;> simp [a, b, rr_bi]
theorem rr_nbb (b : Bool) : vp_nar .boolean (rr_bi b) = rr_bi b := by
  cases b
  · rw [rr_bif, rr_nb0]
  · rw [rr_bit, rr_nb1]
theorem rr_isOffZ (u : zz_S) (x : Int32) : zf_ModuleFile_isOffset u x = some (rr_bi (rr_woB x (u.1 5)), u) := by
  rw [zf_ModuleFile_isOffset, rr_isWordBelow, rr_b2s, rr_nbb]
theorem rr_tz (u : zz_S) {i : Nat} (h : i < 300) : zf_Tape_wordAt u (nI i) = some (u.2.1 3 i, u) := by
  unfold zf_Tape_wordAt
  rw [if_neg (nI_pos (by omega)), if_neg (show ¬ (300 : Int32) ≤ nI i from nI_ge (b := 300) h (by decide)), rr_ag h (by decide), Option.bind_some]
  rfl
def rr_tw (W t : Nat → Int32) (n : Nat) : Prop := ∀ a, a < n → t a = rr_by (W (a / 4)) (a % 4)
theorem rr_tq {W : Nat → Int32} {n : Nat} {w : qm_S} (h : rr_tw W (w.2 13) n) (hn : n ≤ 1200) {i : Nat} (hi : 4 * i + 4 ≤ n) : qf_Model_tapeWord w (nI (4 * i)) = some (W i, w) := by
  unfold qf_Model_tapeWord
  rw [show (1 : Int32) = nI 1 from rfl, show (2 : Int32) = nI 2 from rfl, show (3 : Int32) = nI 3 from rfl, nI_add, nI_add, nI_add, rr_ag (by omega) (by decide), Option.bind_some, rr_ag (by omega) (by decide), Option.bind_some, rr_ag (by omega) (by decide), Option.bind_some, rr_ag (by omega) (by decide), Option.bind_some]
  rw [h (4 * i) (by omega), h (4 * i + 1) (by omega), h (4 * i + 2) (by omega), h (4 * i + 3) (by omega), show 4 * i / 4 = i by omega, show (4 * i + 1) / 4 = i by omega, show (4 * i + 2) / 4 = i by omega, show (4 * i + 3) / 4 = i by omega, show 4 * i % 4 = 0 by omega, show (4 * i + 1) % 4 = 1 by omega, show (4 * i + 2) % 4 = 2 by omega, show (4 * i + 3) % 4 = 3 by omega, rr_word]
theorem rr_p4 (i k : Nat) : nI (4 * i) + nI (4 * k) = nI (4 * (i + k)) := by rw [nI_add, Nat.mul_add]
/-- the head's word of yes or no -/
def rr_hdB (s a b c i e g : Int32) : Bool := !(decide (s < 4)) && (!(decide (512 < s)) && (decide (s &&& 3 = 0) && (rr_upB a 8 && (rr_upB b 8 && (rr_upB c 24 && ((decide (i = -1) || rr_woB i s) && ((decide (e = -1) || rr_woB e s) && (rr_upB g s && decide (g &&& 3 = 0)))))))))
theorem rr_hdZ (u : zz_S) : zf_ModuleFile_headerHolds u = some (rr_bi (rr_hdB (u.1 5) (u.1 6) (u.1 7) (u.1 8) (u.1 9) (u.1 10) (u.1 11)), u) := by
  simp only [zf_ModuleFile_headerHolds, zf_ModuleFile_headerHolds_b82, zf_ModuleFile_headerHolds_b101, zf_ModuleFile_headerHolds_b128, zf_ModuleFile_headerHolds_b129, rr_isUpTo, rr_isOffZ, rr_b2s, rr_nb0, rr_nb1, rr_hdB, rr_bi0]
  by_cases c1 : u.1 5 < 4
  · simp [c1, rr_bi]
  by_cases c2 : 512 < u.1 5
  · simp [c1, c2, rr_bi]
  by_cases c3 : u.1 5 &&& 3 = 0
  · cases c4 : rr_upB (u.1 6) 8
    · simp [c1, c2, c3, rr_bi]
    cases c5 : rr_upB (u.1 7) 8
    · simp [c1, c2, c3, rr_bi]
    cases c6 : rr_upB (u.1 8) 24
    · simp [c1, c2, c3, rr_bi]
    by_cases c7 : u.1 9 = -1
    · by_cases c8 : u.1 10 = -1
      · cases c9 : rr_upB (u.1 11) (u.1 5)
        · simp [c1, c2, c3, c7, c8, rr_bi]
        · by_cases c10 : u.1 11 &&& 3 = 0
          · simp [c1, c2, c3, c7, c8, c10, rr_bi]
          · simp [c1, c2, c3, c7, c8, c10, rr_bi]
      · cases c8' : rr_woB (u.1 10) (u.1 5)
        · simp [c1, c2, c3, c7, c8, rr_bi]
        · cases c9 : rr_upB (u.1 11) (u.1 5)
          · simp [c1, c2, c3, c7, c8, rr_bi]
          · by_cases c10 : u.1 11 &&& 3 = 0
            · simp [c1, c2, c3, c7, c8, c10, rr_bi]
            · simp [c1, c2, c3, c7, c8, c10, rr_bi]
    · cases c7' : rr_woB (u.1 9) (u.1 5)
      · simp [c1, c2, c3, c7, rr_bi]
      · by_cases c8 : u.1 10 = -1
        · cases c9 : rr_upB (u.1 11) (u.1 5)
          · simp [c1, c2, c3, c7, c8, rr_bi]
          · by_cases c10 : u.1 11 &&& 3 = 0
            · simp [c1, c2, c3, c7, c8, c10, rr_bi]
            · simp [c1, c2, c3, c7, c8, c10, rr_bi]
        · cases c8' : rr_woB (u.1 10) (u.1 5)
          · simp [c1, c2, c3, c7, c8, rr_bi]
          · cases c9 : rr_upB (u.1 11) (u.1 5)
            · simp [c1, c2, c3, c7, c8, rr_bi]
            · by_cases c10 : u.1 11 &&& 3 = 0
              · simp [c1, c2, c3, c7, c8, c10, rr_bi]
              · simp [c1, c2, c3, c7, c8, c10, rr_bi]
  · simp [c1, c2, c3, rr_bi]
/-- the guarded part: two ways to say it -/
theorem rr_guE {s g : Int32} (c1 : ¬ s < 4) (c3 : s &&& 3 = 0) : (decide (g = s) || rr_woB g s) = (rr_upB g s && decide (g &&& 3 = 0)) := by
  have h0 : ¬ s < 0 := fun z => c1 (Int32.lt_trans z (by decide))
  obtain ⟨k, hk, rfl⟩ := nI_of h0
  by_cases c : g < 0
  · have e : ¬ g = nI k := fun z => by rw [z] at c; exact h0 c
    simp [rr_woB, rr_upB, c, e]
  · obtain ⟨j, hj, rfl⟩ := nI_of c
    by_cases e : j = k
    · subst e
      have : ¬ nI j < nI j := nI_nlt (Nat.le_refl _) hj
      simp [rr_upB, c, c3, this]
    · have e2 : ¬ nI j = nI k := fun z => e ((nI_eq hj hk).mp z)
      by_cases q : j < k
      · have q1 : ¬ nI k ≤ nI j := nI_ge q hk
        have q2 : ¬ nI k < nI j := nI_nlt (by omega) hk
        simp [rr_woB, rr_upB, c, e2, q1, q2]
      · have q1 : nI k ≤ nI j := nI_le (by omega) hj
        have q2 : nI k < nI j := nI_lt (by omega) hj
        simp [rr_woB, rr_upB, c, e2, q1, q2]
theorem rr_upI2 (x y : Int32) {α : Type} (A B : α) : (if x < 0 then A else (if y < x then A else B)) = if rr_upB x y = true then B else A := by
  unfold rr_upB
  by_cases a : x < 0 <;> by_cases b : y < x <;> simp [a, b]
theorem rr_hdQ (w : qm_S) (x1 : Int32) : (if (w.1 26) < (4 : Int32) then (qf_Model_isFile_b166 w x1) else (if (512 : Int32) < (w.1 26) then (qf_Model_isFile_b166 w x1) else (if ((w.1 26) - (w.1 26) / (4 : Int32) * (4 : Int32)) = 0 then (if (w.1 23) < 0 then (qf_Model_isFile_b166 w x1) else (if (8 : Int32) < (w.1 23) then (qf_Model_isFile_b166 w x1) else (if (w.1 24) < 0 then (qf_Model_isFile_b166 w x1) else (if (8 : Int32) < (w.1 24) then (qf_Model_isFile_b166 w x1) else (if (w.1 25) < 0 then (qf_Model_isFile_b166 w x1) else (if (24 : Int32) < (w.1 25) then (qf_Model_isFile_b166 w x1) else (qf_Model_isFile_b167 w x1 (1 : Int32)))))))) else (qf_Model_isFile_b166 w x1)))) = qf_Model_isFile_b246 w x1 (rr_bi (rr_hdB (w.1 26) (w.1 23) (w.1 24) (w.1 25) (w.1 27) (w.1 28) (w.1 29))) := by
  have bad : qf_Model_isFile_b166 w x1 = qf_Model_isFile_b246 w x1 (rr_bi false) := by
    rw [qf_Model_isFile_b166, qf_Model_isFile_b167, if_pos rfl, qf_Model_isFile_b245]
    rfl
  have bad2 : qf_Model_isFile_b245 w x1 = qf_Model_isFile_b246 w x1 (rr_bi false) := rfl
  have good2 : qf_Model_isFile_b241 w x1 = qf_Model_isFile_b246 w x1 (rr_bi true) := rfl
  rw [bad, rr_upI2, rr_upI2, rr_upI2, rr_hdB]
  by_cases c1 : w.1 26 < 4
  · rw [if_pos c1, decide_eq_true c1]
    rfl
  rw [if_neg c1, decide_eq_false c1]
  by_cases c2 : 512 < w.1 26
  · rw [if_pos c2, decide_eq_true c2]
    rfl
  rw [if_neg c2, decide_eq_false c2]
  have e3 := rr_mod4 (w.1 26) (fun z => c1 (Int32.lt_trans z (by decide)))
  by_cases c3 : w.1 26 &&& 3 = 0
  · rw [if_pos (e3.mpr c3), decide_eq_true c3]
    cases c4 : rr_upB (w.1 23) 8
    · rw [if_neg (by decide)]; rfl
    rw [if_pos rfl]
    cases c5 : rr_upB (w.1 24) 8
    · rw [if_neg (by decide)]; rfl
    rw [if_pos rfl]
    cases c6 : rr_upB (w.1 25) 24
    · rw [if_neg (by decide)]; rfl
    rw [if_pos rfl, ← rr_guE c1 c3, qf_Model_isFile_b167, if_neg (by decide), rr_isOffset, rr_b2s, bad2]
    have f3 : qf_Model_isFile_b216 w x1 = qf_Model_isFile_b246 w x1 (rr_bi (decide (w.1 29 = w.1 26) || rr_woB (w.1 29) (w.1 26))) := by
      rw [qf_Model_isFile_b216, rr_isOffset, rr_b2s, bad2, good2]
      by_cases q : w.1 29 = w.1 26
      · rw [if_pos q, decide_eq_true q]; rfl
      · rw [if_neg q, decide_eq_false q]
        cases q2 : rr_woB (w.1 29) (w.1 26)
        · rw [if_pos rr_bif]; rfl
        · rw [if_neg (by decide)]; rfl
    have f2 : qf_Model_isFile_b194 w x1 = qf_Model_isFile_b246 w x1 (rr_bi ((decide (w.1 28 = -1) || rr_woB (w.1 28) (w.1 26)) && (decide (w.1 29 = w.1 26) || rr_woB (w.1 29) (w.1 26)))) := by
      rw [qf_Model_isFile_b194, rr_isOffset, rr_b2s, bad2, f3]
      by_cases q : w.1 28 = -1
      · rw [if_pos q, decide_eq_true q]; rfl
      · rw [if_neg q, decide_eq_false q]
        cases q2 : rr_woB (w.1 28) (w.1 26)
        · rw [if_pos rr_bif]; rfl
        · rw [if_neg (by decide)]; rfl
    rw [f2]
    by_cases q : w.1 27 = -1
    · rw [if_pos q, decide_eq_true q]; rfl
    · rw [if_neg q, decide_eq_false q]
      cases q2 : rr_woB (w.1 27) (w.1 26)
      · rw [if_pos rr_bif]; rfl
      · rw [if_neg (by decide)]; rfl
  · rw [if_neg (fun z => c3 (e3.mp z)), decide_eq_false c3]
    rfl
theorem rr_upN2 {x y : Int32} {n : Nat} (hy : y.toInt = n) (h : rr_upB x y = true) : ∃ j, j ≤ n ∧ x = nI j := by
  simp only [rr_upB, Bool.and_eq_true, Bool.not_eq_true', decide_eq_false_iff_not] at h
  exact nI_of2 hy h.1 (Int32.not_lt.mp h.2)
/-- what a good head says -/
theorem rr_hdN {s a b c i e g : Int32} (h : rr_hdB s a b c i e g = true) : ∃ (σ A B C γ : Nat), (1 ≤ σ ∧ σ ≤ 128 ∧ A ≤ 8 ∧ B ≤ 8 ∧ C ≤ 24 ∧ γ ≤ σ) ∧ s = nI (4 * σ) ∧ a = nI A ∧ b = nI B ∧ c = nI C ∧ g = nI (4 * γ) ∧ (i = -1 ∨ rr_woB i s = true) ∧ (e = -1 ∨ rr_woB e s = true) := by
  simp only [rr_hdB, Bool.and_eq_true, Bool.not_eq_true', decide_eq_false_iff_not, decide_eq_true_eq, Bool.or_eq_true] at h
  obtain ⟨h1, h2, h3, h4, h5, h6, h7, h8, h9, h10⟩ := h
  obtain ⟨k, hk, rfl⟩ := nI_of2 (M := 512) (n := 512) (by decide) (fun z => h1 (Int32.lt_trans z (by decide))) (Int32.not_lt.mp h2)
  have k4 : ¬ k < 4 := fun z => h1 (show nI k < (4 : Int32) from nI_lt (b := 4) z (by decide))
  rw [show (3 : Int32) = nI 3 from rfl, rr_and3 (by omega)] at h3
  have k0 : k % 4 = 0 := (nI_eq (b := 0) (by omega) (by decide)).mp h3
  obtain ⟨A, hA, rfl⟩ := rr_upN2 (n := 8) (by decide) h4
  obtain ⟨B, hB, rfl⟩ := rr_upN2 (n := 8) (by decide) h5
  obtain ⟨C, hC, rfl⟩ := rr_upN2 (n := 24) (by decide) h6
  obtain ⟨γ, hγ, rfl⟩ := rr_upN2 (n := k) (nI_toInt (by omega)) h9
  rw [show (3 : Int32) = nI 3 from rfl, rr_and3 (by omega)] at h10
  have γ0 : γ % 4 = 0 := (nI_eq (b := 0) (by omega) (by decide)).mp h10
  have ek : 4 * (k / 4) = k := by omega
  refine ⟨k / 4, A, B, C, γ / 4, by omega, by rw [ek], rfl, rfl, rfl, by rw [show 4 * (γ / 4) = γ by omega], h7, h8⟩
def rr_fb (σ a b c : Nat) : Prop := 1 ≤ σ ∧ σ ≤ 128 ∧ a ≤ 8 ∧ b ≤ 8 ∧ c ≤ 24
def rr_hz (u : zz_S) (σ a b c : Nat) : Prop := u.1 5 = nI (4 * σ) ∧ u.1 6 = nI a ∧ u.1 7 = nI b ∧ u.1 8 = nI c ∧ u.1 12 = nI (8 + σ) ∧ u.1 13 = nI (8 + σ + 2 * a) ∧ u.1 14 = nI (8 + σ + 2 * a + 3 * b)
def rr_hq (w : qm_S) (σ a b c : Nat) : Prop := w.1 26 = nI (4 * σ) ∧ w.1 23 = nI a ∧ w.1 24 = nI b ∧ w.1 25 = nI c
theorem rr_imA {w : qm_S} {σ a b c : Nat} (h : rr_hq w σ a b c) (i : Nat) : qf_Model_importAt w (nI i) = some (nI (4 * (8 + σ + 2 * i)), w) := by
  rw [qf_Model_importAt, h.1, show (32 : Int32) = nI 32 from rfl, show (8 : Int32) = nI 8 from rfl, nI_add, pk_mul, nI_add, show 32 + 4 * σ + 8 * i = 4 * (8 + σ + 2 * i) by omega]
theorem rr_exA {w : qm_S} {σ a b c : Nat} (h : rr_hq w σ a b c) (i : Nat) : qf_Model_exportAt w (nI i) = some (nI (4 * (8 + σ + 2 * a + 3 * i)), w) := by
  rw [qf_Model_exportAt, h.2.1, rr_imA h, rr_b2s, show (12 : Int32) = nI 12 from rfl, pk_mul, nI_add, show 4 * (8 + σ + 2 * a) + 12 * i = 4 * (8 + σ + 2 * a + 3 * i) by omega]
theorem rr_plA {w : qm_S} {σ a b c : Nat} (h : rr_hq w σ a b c) (i : Nat) : qf_Model_placeAt w (nI i) = some (nI (4 * (8 + σ + 2 * a + 3 * b + 4 * i)), w) := by
  rw [qf_Model_placeAt, h.2.2.1, rr_exA h, rr_b2s, show (16 : Int32) = nI 16 from rfl, pk_mul, nI_add, show 4 * (8 + σ + 2 * a + 3 * b) + 16 * i = 4 * (8 + σ + 2 * a + 3 * b + 4 * i) by omega]
theorem rr_zin {u : zz_S} {σ a b c : Nat} (h : rr_hz u σ a b c) {i : Nat} (hi : 8 + σ + 2 * i + 1 < 300) : zf_ModuleFile_importName u (nI i) = some (u.2.1 3 (8 + σ + 2 * i), u) ∧ zf_ModuleFile_importCheck u (nI i) = some (u.2.1 3 (8 + σ + 2 * i + 1), u) := by
  have e : u.1 12 + (2 : Int32) * nI i = nI (8 + σ + 2 * i) := by rw [h.2.2.2.2.1, show (2 : Int32) = nI 2 from rfl, pk_mul, nI_add]
  constructor
  · rw [zf_ModuleFile_importName, e, rr_tz _ (by omega), rr_b2s]
  · rw [zf_ModuleFile_importCheck, e, nI_1, rr_tz _ (by omega), rr_b2s]
theorem rr_zex {u : zz_S} {σ a b c : Nat} (h : rr_hz u σ a b c) {i : Nat} (hi : 8 + σ + 2 * a + 3 * i + 2 < 300) : zf_ModuleFile_exportName u (nI i) = some (u.2.1 3 (8 + σ + 2 * a + 3 * i), u) ∧ zf_ModuleFile_exportCheck u (nI i) = some (u.2.1 3 (8 + σ + 2 * a + 3 * i + 1), u) ∧ zf_ModuleFile_exportOffset u (nI i) = some (u.2.1 3 (8 + σ + 2 * a + 3 * i + 2), u) := by
  have e : u.1 13 + (3 : Int32) * nI i = nI (8 + σ + 2 * a + 3 * i) := by rw [h.2.2.2.2.2.1, show (3 : Int32) = nI 3 from rfl, pk_mul, nI_add]
  refine ⟨?_, ?_, ?_⟩
  · rw [zf_ModuleFile_exportName, e, rr_tz _ (by omega), rr_b2s]
  · rw [zf_ModuleFile_exportCheck, e, nI_1, rr_tz _ (by omega), rr_b2s]
  · rw [zf_ModuleFile_exportOffset, e, show (2 : Int32) = nI 2 from rfl, nI_add, rr_tz _ (by omega), rr_b2s]
theorem rr_zpl {u : zz_S} {σ a b c : Nat} (h : rr_hz u σ a b c) {i : Nat} (hi : 8 + σ + 2 * a + 3 * b + 4 * i + 3 < 300) : zf_ModuleFile_placeKind u (nI i) = some (u.2.1 3 (8 + σ + 2 * a + 3 * b + 4 * i), u) ∧ zf_ModuleFile_placeOffset u (nI i) = some (u.2.1 3 (8 + σ + 2 * a + 3 * b + 4 * i + 1), u) ∧ zf_ModuleFile_placeSource u (nI i) = some (u.2.1 3 (8 + σ + 2 * a + 3 * b + 4 * i + 2), u) ∧ zf_ModuleFile_placeAddend u (nI i) = some (u.2.1 3 (8 + σ + 2 * a + 3 * b + 4 * i + 3), u) := by
  have e : u.1 14 + (4 : Int32) * nI i = nI (8 + σ + 2 * a + 3 * b + 4 * i) := by rw [h.2.2.2.2.2.2, show (4 : Int32) = nI 4 from rfl, pk_mul, nI_add]
  refine ⟨?_, ?_, ?_, ?_⟩
  · rw [zf_ModuleFile_placeKind, e, rr_tz _ (by omega), rr_b2s]
  · rw [zf_ModuleFile_placeOffset, e, nI_1, rr_tz _ (by omega), rr_b2s]
  · rw [zf_ModuleFile_placeSource, e, show (2 : Int32) = nI 2 from rfl, nI_add, rr_tz _ (by omega), rr_b2s]
  · rw [zf_ModuleFile_placeAddend, e, show (3 : Int32) = nI 3 from rfl, nI_add, rr_tz _ (by omega), rr_b2s]
