/-! places: values, reach, mending; the image -/
def rr_sa (w : qm_S) (x : Int32) : Int32 := w.2 4 ((((qf_Model_find w x).map Prod.fst).getD 0).toNatClampNeg)
theorem rr_saj {w : qm_S} {x : Int32} {j : Nat} (h : qf_Model_find w x = some (nI j, w)) (hj : j < 2 ^ 31) : rr_sa w x = w.2 4 j := by
  unfold rr_sa
  rw [h, Option.map_some, Option.getD_some]
  show w.2 4 (nI j).toNatClampNeg = _
  rw [nI_clamp hj]
theorem rr_fdl {w w1 : qm_S} (h3 : w1.1 3 = w.1 3) (h2 : w1.2 2 = w.2 2) (x : Int32) : ∀ (n : Nat) (k : Int32), (qf_Model_find_b2 n w1 x k).map Prod.fst = (qf_Model_find_b2 n w x k).map Prod.fst := by
  intro n
  induction n with
  | zero => intro k; rfl
  | succ n ih =>
    intro k
    rw [qf_Model_find_b2, qf_Model_find_b2, qf_Model_find_b26, qf_Model_find_b26, h3, h2]
    by_cases c : w.1 3 ≤ k
    · rw [if_pos c, if_pos c, if_pos c, if_pos c]; rfl
    · rw [if_neg c, if_neg c, if_neg c, if_neg c]
      cases hx : xx_ag (w.2 2) 40 k with
      | none => rfl
      | some v =>
        rw [Option.bind_some, Option.bind_some]
        by_cases c2 : v = x
        · rw [if_pos c2, if_pos c2]; rfl
        · rw [if_neg c2, if_neg c2, rr_nm, rr_nm]
          exact ih _
theorem rr_sae {w w1 : qm_S} (h3 : w1.1 3 = w.1 3) (h2 : w1.2 2 = w.2 2) (h4 : w1.2 4 = w.2 4) (x : Int32) : rr_sa w1 x = rr_sa w x := by
  unfold rr_sa qf_Model_find
  rw [rr_nm, rr_nm, rr_fdl h3 h2, h4]
def rr_of (W : Nat → Int32) (p k : Nat) : Nat := (W (p + 4 * k + 1)).toNatClampNeg / 4
def rr_V (W : Nat → Int32) (A : Int32 → Int32) (σ p B k : Nat) : Int32 := (if W (p + 4 * k + 2) = -1 then nI B else A (W (8 + σ + 2 * (W (p + 4 * k + 2)).toNatClampNeg))) + W (p + 4 * k + 3)
def rr_dv (W : Nat → Int32) (A : Int32 → Int32) (σ p B k : Nat) : Int32 := rr_V W A σ p B k - (nI B + W (p + 4 * k + 1))
def rr_yv (W : Nat → Int32) (A : Int32 → Int32) (σ p B k : Nat) : Int32 := if rr_diB (W (p + 4 * k)) = true then rr_dv W A σ p B k else rr_V W A σ p B k
theorem rr_pf {W : Nat → Int32} {σ a b k : Nat} (ha : a ≤ 8) (hσ : σ ≤ 128) (h : rr_pB W σ a b k = true) : (∃ j, j ≤ 5 ∧ W (8 + σ + 2 * a + 3 * b + 4 * k) = nI j) ∧ (W (8 + σ + 2 * a + 3 * b + 4 * k + 1) = nI (4 * rr_of W (8 + σ + 2 * a + 3 * b) k) ∧ rr_of W (8 + σ + 2 * a + 3 * b) k < σ) ∧ (W (8 + σ + 2 * a + 3 * b + 4 * k + 2) = -1 ∨ ∃ t, t < a ∧ W (8 + σ + 2 * a + 3 * b + 4 * k + 2) = nI t) := by
  simp only [rr_pB, Bool.and_eq_true] at h
  obtain ⟨h1, h2, h3⟩ := h
  refine ⟨rr_upN2 (n := 5) (by decide) h1, ?_, ?_⟩
  · obtain ⟨x, x1, x2, x3⟩ := rr_woN (n := 4 * σ) rfl (by omega) h2
    have e : rr_of W (8 + σ + 2 * a + 3 * b) k = x / 4 := by
      unfold rr_of
      rw [x3, nI_clamp (by omega)]
    rw [e, x3, show 4 * (x / 4) = x by omega]
    exact ⟨rfl, by omega⟩
  · rw [rr_srcE ha] at h3
    simp only [Bool.and_eq_true, Bool.not_eq_true', decide_eq_false_iff_not] at h3
    by_cases c : W (8 + σ + 2 * a + 3 * b + 4 * k + 2) < 0
    · refine Or.inl ?_
      have q1 := Int32.lt_iff_toInt_lt.mp c
      have q2 : ¬ (W (8 + σ + 2 * a + 3 * b + 4 * k + 2)).toInt < (-1 : Int32).toInt := fun z => h3.1 (Int32.lt_iff_toInt_lt.mpr z)
      have q3 : (0 : Int32).toInt = 0 := by decide
      have q4 : (-1 : Int32).toInt = -1 := by decide
      exact Int32.toInt_inj.mp (by omega)
    · obtain ⟨t, t1, t2⟩ := nI_of c
      rw [t2] at h3 ⊢
      refine Or.inr ⟨t, ?_, rfl⟩
      by_cases q : t < a
      · exact q
      · exact absurd (nI_le (by omega) t1) h3.2
theorem rr_zval {u : zz_S} {w : qm_S} {φ : Nat → Nat} {ms : List Nat} {S σ a b c k : Nat} (hB : rr_B u w φ ms S) (hb : rr_fb σ a b c) (hz : rr_hz u σ a b c) (hk : k < c) (hp : rr_pB (u.2.1 3) σ a b k = true) (hf : ∀ j, j < a → ∃ k, k < S ∧ w.2 2 k = u.2.1 3 (8 + σ + 2 * j)) (B : Nat) : zf_Loader_valueOf u (nI k) (nI B) = some (rr_V (u.2.1 3) (rr_sa w) σ (8 + σ + 2 * a + 3 * b) B k, u) := by
  obtain ⟨b1, b2, b3, b4, b5⟩ := hb
  obtain ⟨x1, x2, x3, x4⟩ := rr_zpl hz (i := k) (by omega)
  obtain ⟨p1, p2, p3⟩ := rr_pf b3 b2 hp
  unfold zf_Loader_valueOf rr_V
  rw [x3, rr_b2s]
  rcases p3 with q | ⟨t, t1, t2⟩
  · rw [if_pos q, if_pos q, x4, rr_b2s]
  · have q : ¬ u.2.1 3 (8 + σ + 2 * a + 3 * b + 4 * k + 2) = -1 := fun z => rr_m1I (m := t) (by omega) (z.symm.trans t2)
    rw [if_neg q, if_neg q, t2, nI_clamp (by omega), (rr_zin hz (i := t) (by omega)).1, rr_b2s]
    rcases rr_find hB (u.2.1 3 (8 + σ + 2 * t)) with ⟨j, h1, h2, h3, h4⟩ | ⟨h1, h3, h4⟩
    · obtain ⟨q, ow, y1, y2, y3, y4⟩ := hB.2.2.2 j h1
      have hS := hB.1
      rw [h3, rr_b2s, y1, rr_onS, rr_pi y2 y3 rfl, Option.bind_some, zf_Loader_valueOf_b56, x4, rr_b2s, rr_saj h4 (by omega)]
    · obtain ⟨j, h5, h6⟩ := hf t t1
      exact absurd h6 (h1 j h5)
theorem rr_zdis {u : zz_S} {w : qm_S} {φ : Nat → Nat} {ms : List Nat} {S σ a b c k : Nat} (hB : rr_B u w φ ms S) (hb : rr_fb σ a b c) (hz : rr_hz u σ a b c) (hk : k < c) (hp : rr_pB (u.2.1 3) σ a b k = true) (hf : ∀ j, j < a → ∃ k, k < S ∧ w.2 2 k = u.2.1 3 (8 + σ + 2 * j)) (B : Nat) : zf_Loader_distanceOf u (nI k) (nI B) = some (rr_dv (u.2.1 3) (rr_sa w) σ (8 + σ + 2 * a + 3 * b) B k, u) := by
  have hb0 := hb
  obtain ⟨b1, b2, b3, b4, b5⟩ := hb
  obtain ⟨x1, x2, x3, x4⟩ := rr_zpl hz (i := k) (by omega)
  unfold zf_Loader_distanceOf rr_dv
  rw [rr_zval hB hb0 hz hk hp hf B, rr_b2s, x2, rr_b2s]
/-- the class looks first whether all places reach -/
theorem rr_zrm {u : zz_S} {w : qm_S} {φ : Nat → Nat} {ms : List Nat} {S σ a b c : Nat} (hB : rr_B u w φ ms S) (hb : rr_fb σ a b c) (hz : rr_hz u σ a b c) (hp : ∀ k, k < c → rr_pB (u.2.1 3) σ a b k = true) (hf : ∀ j, j < a → ∃ k, k < S ∧ w.2 2 k = u.2.1 3 (8 + σ + 2 * j)) (B : Nat) : ∀ (d k n : Nat), k + d = c → ((∀ j, k ≤ j → j < c → rr_rB (u.2.1 3 (8 + σ + 2 * a + 3 * b + 4 * j)) (rr_dv (u.2.1 3) (rr_sa w) σ (8 + σ + 2 * a + 3 * b) B j) = true) ∧ zf_Loader_findRoom_b34 (n + d + 1) u (nI B) (nI k) = some (nI B, u)) ∨ ∃ j, k ≤ j ∧ j < c ∧ (∀ i, k ≤ i → i < j → rr_rB (u.2.1 3 (8 + σ + 2 * a + 3 * b + 4 * i)) (rr_dv (u.2.1 3) (rr_sa w) σ (8 + σ + 2 * a + 3 * b) B i) = true) ∧ rr_rB (u.2.1 3 (8 + σ + 2 * a + 3 * b + 4 * j)) (rr_dv (u.2.1 3) (rr_sa w) σ (8 + σ + 2 * a + 3 * b) B j) = false ∧ zf_Loader_findRoom_b34 (n + d + 1) u (nI B) (nI k) = some (-1, rr_zb u 7 (nI j)) := by
  have hb0 := hb
  obtain ⟨b1, b2, b3, b4, b5⟩ := hb
  intro d
  induction d with
  | zero =>
    intro k n h
    refine Or.inl ⟨fun j h1 h2 => absurd h1 (by omega), ?_⟩
    rw [zf_Loader_findRoom_b34, if_pos (by rw [hz.2.2.2.1]; exact nI_le (by omega) (by omega))]
  | succ d ih =>
    intro k n h
    obtain ⟨x1, x2, x3, x4⟩ := rr_zpl hz (i := k) (by omega)
    rw [zf_Loader_findRoom_b34, if_neg (by rw [hz.2.2.2.1]; exact nI_ge (by omega) (by omega)), x1, rr_b2s, rr_zdis hB hb0 hz (by omega) (hp k (by omega)) hf B, rr_b2s, rr_rch, rr_b2s]
    cases c1 : rr_rB (u.2.1 3 (8 + σ + 2 * a + 3 * b + 4 * k)) (rr_dv (u.2.1 3) (rr_sa w) σ (8 + σ + 2 * a + 3 * b) B k)
    · rw [if_pos rr_bif, rr_blame, Option.bind_some]
      exact Or.inr ⟨k, Nat.le_refl _, by omega, fun i h1 h2 => absurd h1 (by omega), c1, rfl⟩
    · rw [if_neg (by decide), rr_nm, nI_1]
      rcases ih (k + 1) n (by omega) with ⟨h1, h2⟩ | ⟨j, h1, h2, h3, h4, h5⟩
      · refine Or.inl ⟨fun j j1 j2 => ?_, h2⟩
        by_cases e : j = k
        · rw [e]; exact c1
        · exact h1 j (by omega) j2
      · refine Or.inr ⟨j, by omega, h2, fun i i1 i2 => ?_, h4, h5⟩
        by_cases e : i = k
        · rw [e]; exact c1
        · exact h3 i (by omega) i2
/-- the reference mends on the tape -/
theorem rr_mbl (w : qm_S) (B y : Nat) (v : Int32) (hy : 32 + y + 4 ≤ 1200) (hB : B ≤ 4096) : ∀ (d k n : Nat), k + d = 4 → qf_Model_mend_b357 (n + d + 1) (w.1, va_up w.2 13 (rr_putf (w.2 13) (32 + y) v k)) (nI B) (nI (B + y)) v (nI k) = some (1, (w.1, va_up w.2 13 (rr_putf (w.2 13) (32 + y) v 4))) := by
  intro d
  induction d with
  | zero =>
    intro k n h
    have e : k = 4 := by omega
    subst e
    rw [qf_Model_mend_b357, if_pos (show (4 : Int32) ≤ nI 4 from nI_le (a := 4) (Nat.le_refl _) (by decide)), rr_nb1]
  | succ d ih =>
    intro k n h
    rw [qf_Model_mend_b357, if_neg (show ¬ (4 : Int32) ≤ nI k from nI_ge (b := 4) (by omega) (by decide)), show (32 : Int32) + nI (B + y) = nI (32 + (B + y)) from nI_add 32 _, pk_sub (by omega), nI_add, show 32 + (B + y) - B + k = 32 + y + k by omega, rr_as (by omega) (by decide), Option.bind_some]
    simp only [xx_nm, rr_upS, rr_upU]
    rw [show (v >>> (((8 : Int32) * nI k) &&& 31)) &&& (255 : Int32) = rr_by v k from rfl, rr_putfS, nI_1]
    exact ih (k + 1) n (by omega)
theorem rr_mb (w : qm_S) (B y : Nat) (v : Int32) (hy : 32 + y + 4 ≤ 1200) (hB : B ≤ 4096) : qf_Model_mend_b354 w (nI B) (nI (B + y)) v = some (1, (w.1, va_up w.2 13 (rr_putf (w.2 13) (32 + y) v 4))) := by
  have h := rr_mbl w B y v hy hB 4 0 4995 (by omega)
  rw [rr_putf0, rr_upI, nI_0] at h
  exact h
theorem rr_twp {T t : Nat → Int32} {N : Nat} (h : rr_tw T t N) (o : Nat) (v : Int32) : rr_tw (va_up T (8 + o) v) (rr_putf t (32 + 4 * o) v 4) N := by
  intro i hi
  unfold rr_putf
  by_cases c : 32 + 4 * o ≤ i ∧ i < 32 + 4 * o + 4
  · rw [if_pos c, show i / 4 = 8 + o by omega, rr_upS, show i - (32 + 4 * o) = i % 4 by omega]
  · rw [if_neg c, rr_upN _ _ (by omega), h i hi]
theorem rr_odd1 : ∀ x : Int32, x.toInt = (1048574 : Int32).toInt + 1 → ¬ x &&& 1 = 0 := by
  intro x h
  have : x = 1048575 := Int32.toInt_inj.mp (h.trans (by decide))
  rw [this]
  decide
theorem rr_odd2 : ∀ x : Int32, x.toInt = (4094 : Int32).toInt + 1 → ¬ x &&& 1 = 0 := by
  intro x h
  have : x = 4095 := Int32.toInt_inj.mp (h.trans (by decide))
  rw [this]
  decide
theorem rr_mend {u : zz_S} {w : qm_S} {φ : Nat → Nat} {ms : List Nat} {W T : Nat → Int32} {S N σ a b c k B : Nat} (hB : rr_B u w φ ms S) (hb : rr_fb σ a b c) (hq : rr_hq w σ a b c) (ht : rr_tw T (w.2 13) N) (hN : N ≤ 1200) (hn : N = 4 * (8 + σ + 2 * a + 3 * b + 4 * c)) (hT : ∀ i, 8 + σ ≤ i → T i = W i) (hk : k < c) (hp : rr_pB W σ a b k = true) (hf : ∀ j, j < a → ∃ k, k < S ∧ w.2 2 k = W (8 + σ + 2 * j)) (h4 : B ≤ 4096) : qf_Model_mend w (nI B) (nI k) = if rr_rB (W (8 + σ + 2 * a + 3 * b + 4 * k)) (rr_dv W (rr_sa w) σ (8 + σ + 2 * a + 3 * b) B k) = true then some (1, (w.1, va_up w.2 13 (rr_putf (w.2 13) (32 + 4 * rr_of W (8 + σ + 2 * a + 3 * b) k) (rr_mdv (W (8 + σ + 2 * a + 3 * b + 4 * k)) (T (8 + rr_of W (8 + σ + 2 * a + 3 * b) k)) (rr_yv W (rr_sa w) σ (8 + σ + 2 * a + 3 * b) B k)) 4))) else some (0, w) := by
  obtain ⟨b1, b2, b3, b4, b5⟩ := hb
  obtain ⟨⟨j, p0, p1⟩, ⟨p2, p4⟩, p3⟩ := rr_pf b3 b2 hp
  have e0 : T (8 + σ + 2 * a + 3 * b + 4 * k) = W (8 + σ + 2 * a + 3 * b + 4 * k) := hT _ (by omega)
  have e1 : T (8 + σ + 2 * a + 3 * b + 4 * k + 1) = W (8 + σ + 2 * a + 3 * b + 4 * k + 1) := hT _ (by omega)
  have e2 : T (8 + σ + 2 * a + 3 * b + 4 * k + 2) = W (8 + σ + 2 * a + 3 * b + 4 * k + 2) := hT _ (by omega)
  have e3 : T (8 + σ + 2 * a + 3 * b + 4 * k + 3) = W (8 + σ + 2 * a + 3 * b + 4 * k + 3) := hT _ (by omega)
  have body : ∀ y0 : Int32, y0 + W (8 + σ + 2 * a + 3 * b + 4 * k + 3) = rr_V W (rr_sa w) σ (8 + σ + 2 * a + 3 * b) B k → qf_Model_mend_b62 w (nI B) (nI (4 * (8 + σ + 2 * a + 3 * b + 4 * k))) (W (8 + σ + 2 * a + 3 * b + 4 * k)) (nI B + W (8 + σ + 2 * a + 3 * b + 4 * k + 1)) y0 = if rr_rB (W (8 + σ + 2 * a + 3 * b + 4 * k)) (rr_dv W (rr_sa w) σ (8 + σ + 2 * a + 3 * b) B k) = true then some (1, (w.1, va_up w.2 13 (rr_putf (w.2 13) (32 + 4 * rr_of W (8 + σ + 2 * a + 3 * b) k) (rr_mdv (W (8 + σ + 2 * a + 3 * b + 4 * k)) (T (8 + rr_of W (8 + σ + 2 * a + 3 * b) k)) (rr_yv W (rr_sa w) σ (8 + σ + 2 * a + 3 * b) B k)) 4))) else some (0, w) := fun y0 hy => by
    have m0 : ∀ v, qf_Model_mend_b354 w (nI B) (nI B + W (8 + σ + 2 * a + 3 * b + 4 * k + 1)) v = some (1, (w.1, va_up w.2 13 (rr_putf (w.2 13) (32 + 4 * rr_of W (8 + σ + 2 * a + 3 * b) k) v 4))) := fun v => by
      rw [p2, nI_add]
      exact rr_mb w B _ v (by omega) h4
    have m1 : qf_Model_tapeWord w ((32 + (nI B + W (8 + σ + 2 * a + 3 * b + 4 * k + 1))) - nI B) = some (T (8 + rr_of W (8 + σ + 2 * a + 3 * b) k), w) := by
      rw [p2, nI_add, show (32 : Int32) + nI (B + 4 * rr_of W (8 + σ + 2 * a + 3 * b) k) = nI (32 + (B + 4 * rr_of W (8 + σ + 2 * a + 3 * b) k)) from nI_add 32 _, pk_sub (by omega), show 32 + (B + 4 * rr_of W (8 + σ + 2 * a + 3 * b) k) - B = 4 * (8 + rr_of W (8 + σ + 2 * a + 3 * b) k) by omega]
      exact rr_tq ht hN (by omega)
    have g1 : ∀ (d : Int32) {α : Type} (A C : α), (if (d - d / (2 : Int32) * (2 : Int32)) = 0 then (if d < (-1048576 : Int32) then A else (if d ≤ (1048574 : Int32) then C else A)) else A) = if rr_inB d 1048576 = true then C else A := fun d _ A C => rr_inQ d 1048576 1048574 (by decide) rr_odd1 A C
    have g2 : ∀ (d : Int32) {α : Type} (A C : α), (if (d - d / (2 : Int32) * (2 : Int32)) = 0 then (if d < (-4096 : Int32) then A else (if d ≤ (4094 : Int32) then C else A)) else A) = if rr_inB d 4096 = true then C else A := fun d _ A C => rr_inQ d 4096 4094 (by decide) rr_odd2 A C
    unfold qf_Model_mend_b62
    rw [show (12 : Int32) = nI (4 * 3) from rfl, rr_p4, rr_tq ht hN (by omega), rr_b2s, rr_nm, e3, hy, m1, rr_b2s, rr_nm, show rr_V W (rr_sa w) σ (8 + σ + 2 * a + 3 * b) B k - (nI B + W (8 + σ + 2 * a + 3 * b + 4 * k + 1)) = rr_dv W (rr_sa w) σ (8 + σ + 2 * a + 3 * b) B k from rfl, g1, g2, rr_nm, rr_nm, rr_nm, rr_nm, rr_nm, m0, m0, m0, m0, m0, m0, qf_Model_mend_b218, qf_Model_mend_b301, rr_nb0]
    unfold rr_rB rr_mdv rr_yv rr_diB
    rw [p1]
    match j, p0 with
    | 0, _ => rfl
    | 1, _ => rfl
    | 2, _ => rfl
    | 3, _ => rfl
    | 4, _ => rfl
    | 5, _ => rfl
  unfold qf_Model_mend
  rw [rr_plA hq, rr_b2s, rr_tq ht hN (by omega), rr_b2s, show (4 : Int32) = nI (4 * 1) from rfl, rr_p4, rr_tq ht hN (by omega), rr_b2s, rr_nm, show (8 : Int32) = nI (4 * 2) from rfl, rr_p4, rr_tq ht hN (by omega), rr_b2s, e0, e1, e2]
  rcases p3 with q | ⟨t, t1, t2⟩
  · rw [if_neg (show ¬ (0 : Int32) ≤ W (8 + σ + 2 * a + 3 * b + 4 * k + 2) by rw [q]; decide)]
    refine body _ ?_
    rw [rr_V, if_pos q]
  · have q : ¬ W (8 + σ + 2 * a + 3 * b + 4 * k + 2) = -1 := fun z => rr_m1I (m := t) (by omega) (z.symm.trans t2)
    rw [if_pos (show (0 : Int32) ≤ W (8 + σ + 2 * a + 3 * b + 4 * k + 2) by rw [t2]; exact nI_pos' (by omega)), t2, rr_imA hq, rr_b2s, rr_tq ht hN (by omega), rr_b2s, hT _ (by omega)]
    rcases rr_find hB (W (8 + σ + 2 * t)) with ⟨i, h1, h2, h3, h5⟩ | ⟨h1, h3, h5⟩
    · have hS := hB.1
      rw [h5, rr_b2s, rr_ag (by omega) (by decide), Option.bind_some]
      refine body _ ?_
      rw [rr_V, if_neg q, t2, nI_clamp (by omega), rr_saj h5 (by omega)]
    · obtain ⟨i, h6, h7⟩ := hf t t1
      exact absurd h7 (h1 i h6)
