/-! all places, the image in memory -/
def rr_mw (f : Nat → Int32 → Int32) (o : Nat → Nat) (T : Nat → Int32) : Nat → Nat → Int32
  | 0 => T
  | k + 1 => va_up (rr_mw f o T k) (8 + o k) (f k (rr_mw f o T k (8 + o k)))
theorem rr_mwk {f : Nat → Int32 → Int32} {o : Nat → Nat} {T : Nat → Int32} {σ : Nat} : ∀ k, (∀ j, j < k → o j < σ) → ∀ i, 8 + σ ≤ i → rr_mw f o T k i = T i := by
  intro k
  induction k with
  | zero => intro _ i _; rfl
  | succ k ih =>
    intro h i hi
    have := h k (by omega)
    rw [rr_mw, rr_upN _ _ (by omega)]
    exact ih (fun j hj => h j (by omega)) i hi
def rr_fm (W : Nat → Int32) (A : Int32 → Int32) (σ p B k : Nat) (x : Int32) : Int32 := rr_mdv (W (p + 4 * k)) x (rr_yv W A σ p B k)
theorem rr_qmd {u : zz_S} {w : qm_S} {φ : Nat → Nat} {ms : List Nat} {W : Nat → Int32} {S N σ a b c B : Nat} (hB : rr_B u w φ ms S) (hb : rr_fb σ a b c) (hq : rr_hq w σ a b c) (hN : N ≤ 1200) (hn : N = 4 * (8 + σ + 2 * a + 3 * b + 4 * c)) (hp : ∀ k, k < c → rr_pB W σ a b k = true) (hf : ∀ j, j < a → ∃ k, k < S ∧ w.2 2 k = W (8 + σ + 2 * j)) (h4 : B ≤ 4096) (x1 x2 x4 : Int32) : ∀ (d k n : Nat) (t : Nat → Int32), k + d = c → rr_tw (rr_mw (rr_fm W (rr_sa w) σ (8 + σ + 2 * a + 3 * b) B) (rr_of W (8 + σ + 2 * a + 3 * b)) W k) t N → ((∀ j, k ≤ j → j < c → rr_rB (W (8 + σ + 2 * a + 3 * b + 4 * j)) (rr_dv W (rr_sa w) σ (8 + σ + 2 * a + 3 * b) B j) = true) → ∃ t1, rr_tw (rr_mw (rr_fm W (rr_sa w) σ (8 + σ + 2 * a + 3 * b) B) (rr_of W (8 + σ + 2 * a + 3 * b)) W c) t1 N ∧ qf_Model_bring_b3 (n + d + 1) (w.1, va_up w.2 13 t) x1 x2 (nI B) x4 (nI k) = qf_Model_bring_b44 xx_fu (w.1, va_up w.2 13 t1) x1 x2 (nI B) x4 0) ∧ (∀ j, k ≤ j → j < c → (∀ i, k ≤ i → i < j → rr_rB (W (8 + σ + 2 * a + 3 * b + 4 * i)) (rr_dv W (rr_sa w) σ (8 + σ + 2 * a + 3 * b) B i) = true) → rr_rB (W (8 + σ + 2 * a + 3 * b + 4 * j)) (rr_dv W (rr_sa w) σ (8 + σ + 2 * a + 3 * b) B j) = false → ∃ t1, qf_Model_bring_b3 (n + d + 1) (w.1, va_up w.2 13 t) x1 x2 (nI B) x4 (nI k) = some (rr_qb (w.1, va_up w.2 13 t1) 7 (nI j))) := by
  have hb0 := hb
  obtain ⟨b1, b2, b3, b4, b5⟩ := hb
  intro d
  induction d with
  | zero =>
    intro k n t h ht
    have e : k = c := by omega
    subst e
    refine ⟨fun _ => ⟨t, ht, ?_⟩, fun j h1 h2 => absurd h1 (by omega)⟩
    rw [qf_Model_bring_b3, if_pos (by show w.1 25 ≤ nI k; rw [hq.2.2.2]; exact nI_le (Nat.le_refl _) (by omega)), rr_nm]
  | succ d ih =>
    intro k n t h ht
    have hk : k < c := by omega
    have es : rr_sa (w.1, va_up w.2 13 t) = rr_sa w := funext (fun x => rr_sae (w := w) (w1 := (w.1, va_up w.2 13 t)) rfl rfl rfl x)
    have hm := rr_mend (u := u) (w := (w.1, va_up w.2 13 t)) (φ := φ) (ms := ms) (W := W) (T := rr_mw (rr_fm W (rr_sa w) σ (8 + σ + 2 * a + 3 * b) B) (rr_of W (8 + σ + 2 * a + 3 * b)) W k) (S := S) (N := N) (k := k) (B := B) hB hb0 hq ht hN hn (rr_mwk k (fun j hj => ((rr_pf b3 b2 (hp j (by omega))).2.1).2)) hk (hp k hk) hf h4
    rw [es] at hm
    have st : qf_Model_bring_b3 (n + (d + 1) + 1) (w.1, va_up w.2 13 t) x1 x2 (nI B) x4 (nI k) = if rr_rB (W (8 + σ + 2 * a + 3 * b + 4 * k)) (rr_dv W (rr_sa w) σ (8 + σ + 2 * a + 3 * b) B k) = true then qf_Model_bring_b3 (n + d + 1) (w.1, va_up w.2 13 (rr_putf t (32 + 4 * rr_of W (8 + σ + 2 * a + 3 * b) k) (rr_fm W (rr_sa w) σ (8 + σ + 2 * a + 3 * b) B k (rr_mw (rr_fm W (rr_sa w) σ (8 + σ + 2 * a + 3 * b) B) (rr_of W (8 + σ + 2 * a + 3 * b)) W k (8 + rr_of W (8 + σ + 2 * a + 3 * b) k))) 4)) x1 x2 (nI B) x4 (nI (k + 1)) else some (rr_qb (w.1, va_up w.2 13 t) 7 (nI k)) := by
      rw [qf_Model_bring_b3, if_neg (by show ¬ w.1 25 ≤ nI k; rw [hq.2.2.2]; exact nI_ge hk (by omega)), hm]
      cases c1 : rr_rB (W (8 + σ + 2 * a + 3 * b + 4 * k)) (rr_dv W (rr_sa w) σ (8 + σ + 2 * a + 3 * b) B k)
      · rw [if_neg (by decide), if_neg (by decide), rr_b2s, if_pos rfl, rr_wrong, rr_b2s]
      · rw [if_pos rfl, if_pos rfl, rr_b2s, if_neg (by decide), rr_nm, nI_1]
        show qf_Model_bring_b3 _ (w.1, va_up (va_up w.2 13 t) 13 (rr_putf (va_up w.2 13 t 13) _ _ 4)) _ _ _ _ _ = _
        rw [rr_upU, rr_upS]
        rfl
    rw [st]
    cases c1 : rr_rB (W (8 + σ + 2 * a + 3 * b + 4 * k)) (rr_dv W (rr_sa w) σ (8 + σ + 2 * a + 3 * b) B k)
    · rw [if_neg (by decide)]
      refine ⟨fun hr => ?_, fun j j1 j2 j3 j4 => ?_⟩
      · have := hr k (Nat.le_refl _) hk
        rw [c1] at this
        cases this
      · by_cases e : j = k
        · subst e
          exact ⟨t, rfl⟩
        · have := j3 k (Nat.le_refl _) (by omega)
          rw [c1] at this
          cases this
    · rw [if_pos rfl]
      obtain ⟨i1, i2⟩ := ih (k + 1) n (rr_putf t (32 + 4 * rr_of W (8 + σ + 2 * a + 3 * b) k) (rr_fm W (rr_sa w) σ (8 + σ + 2 * a + 3 * b) B k (rr_mw (rr_fm W (rr_sa w) σ (8 + σ + 2 * a + 3 * b) B) (rr_of W (8 + σ + 2 * a + 3 * b)) W k (8 + rr_of W (8 + σ + 2 * a + 3 * b) k))) 4) (by omega) (by rw [rr_mw]; exact rr_twp ht _ _)
      refine ⟨fun hr => i1 (fun j j1 j2 => hr j (by omega) j2), fun j j1 j2 j3 j4 => ?_⟩
      have e : j ≠ k := fun z => by rw [z, c1] at j4; cases j4
      exact i2 j (by omega) j2 (fun i i1 i2 => j3 i (by omega) i2) j4
/-- the reference copies bytes -/
def rr_cpb (m t : Nat → Int32) (B j : Nat) : Nat → Int32 := fun i => if B ≤ i ∧ i < B + j then t (32 + (i - B)) else m i
theorem rr_cpb0 (m t : Nat → Int32) (B : Nat) : rr_cpb m t B 0 = m := by
  funext i
  unfold rr_cpb
  rw [if_neg (by omega)]
theorem rr_cpbS (m t : Nat → Int32) (B j : Nat) : va_up (rr_cpb m t B j) (B + j) (t (32 + j)) = rr_cpb m t B (j + 1) := by
  funext i
  by_cases h : i = B + j
  · subst h
    rw [rr_upS, rr_cpb, if_pos (by omega), show B + j - B = j by omega]
  · rw [rr_upN _ _ h, rr_cpb, rr_cpb]
    by_cases q : B ≤ i ∧ i < B + j
    · rw [if_pos q, if_pos (by omega)]
    · rw [if_neg q, if_neg (by omega)]
def rr_nw (w : qm_S) (V : Nat → Nat → Int32) (m : Nat) (x : Int32) (B : Nat) : Nat → Nat → Int32 := va_up (va_up (va_up (va_up (va_up (va_up V 6 (va_up (V 6) m 1)) 7 (va_up (V 7) m x)) 8 (va_up (V 8) m (nI B))) 9 (va_up (V 9) m (w.1 26))) 10 (va_up (V 10) m (w.1 29))) 11 (va_up (V 11) m (w.1 28))
theorem rr_qcp {w : qm_S} {σ B m : Nat} (h26 : w.1 26 = nI (4 * σ)) (hσ : σ ≤ 128) (hB : B + 4 * σ ≤ 4096) (hm : m < 12) (x2 x4 : Int32) : ∀ (d j n : Nat), j + d = 4 * σ → qf_Model_bring_b44 (n + d + 1) (w.1, va_up w.2 1 (rr_cpb (w.2 1) (w.2 13) B j)) (nI m) x2 (nI B) x4 (nI j) = qf_Model_bring_b132 xx_fu (w.1, rr_nw w (va_up w.2 1 (rr_cpb (w.2 1) (w.2 13) B (4 * σ))) m x2 B) (nI m) (nI B) x4 0 := by
  intro d
  induction d with
  | zero =>
    intro j n h
    have e : j = 4 * σ := by omega
    subst e
    rw [qf_Model_bring_b44, if_pos (by show w.1 26 ≤ nI (4 * σ); rw [h26]; exact nI_le (Nat.le_refl _) (by omega)), rr_nb1, rr_as hm (by decide), Option.bind_some, rr_nm, rr_as hm (by decide), Option.bind_some, rr_nm, rr_as hm (by decide), Option.bind_some, rr_nm, rr_as hm (by decide), Option.bind_some, rr_nm, rr_as hm (by decide), Option.bind_some, rr_nm, rr_as hm (by decide), Option.bind_some, rr_nm, rr_nm]
    rfl
  | succ d ih =>
    intro j n h
    rw [qf_Model_bring_b44, if_neg (by show ¬ w.1 26 ≤ nI j; rw [h26]; exact nI_ge (by omega) (by omega)), show (32 : Int32) + nI j = nI (32 + j) from nI_add 32 j, rr_ag (by omega) (by decide), Option.bind_some, nI_add, rr_as (by omega) (by decide), Option.bind_some, rr_nm, rr_nm, nI_1]
    show qf_Model_bring_b44 _ (w.1, va_up (va_up w.2 1 (rr_cpb (w.2 1) (w.2 13) B j)) 1 (va_up (va_up w.2 1 (rr_cpb (w.2 1) (w.2 13) B j) 1) (B + j) (w.2 13 (32 + j)))) _ _ _ _ _ = _
    rw [rr_upU, rr_upS, rr_cpbS]
    exact ih (j + 1) n (by omega)
/-- the class copies words, then mends them -/
def rr_cpw (g W : Nat → Int32) (B i : Nat) : Nat → Int32 := fun j => if B ≤ j ∧ j < B + i then W (8 + (j - B)) else g j
theorem rr_cpw0 (g W : Nat → Int32) (B : Nat) : rr_cpw g W B 0 = g := by
  funext i
  unfold rr_cpw
  rw [if_neg (by omega)]
theorem rr_cpwS (g W : Nat → Int32) (B j : Nat) : va_up (rr_cpw g W B j) (B + j) (W (8 + j)) = rr_cpw g W B (j + 1) := by
  funext i
  by_cases h : i = B + j
  · subst h
    rw [rr_upS, rr_cpw, if_pos (by omega), show B + j - B = j by omega]
  · rw [rr_upN _ _ h, rr_cpw, rr_cpw]
    by_cases q : B ≤ i ∧ i < B + j
    · rw [if_pos q, if_pos (by omega)]
    · rw [if_neg q, if_neg (by omega)]
theorem rr_cpwU (g W : Nat → Int32) {B σ o : Nat} (v : Int32) (h : o < σ) : va_up (rr_cpw g W B σ) (B + o) v = rr_cpw g (va_up W (8 + o) v) B σ := by
  funext i
  by_cases e : i = B + o
  · subst e
    rw [rr_upS, rr_cpw, if_pos (by omega), show 8 + (B + o - B) = 8 + o by omega, rr_upS]
  · rw [rr_upN _ _ e, rr_cpw, rr_cpw]
    by_cases q : B ≤ i ∧ i < B + σ
    · rw [if_pos q, if_pos q, rr_upN _ _ (by omega)]
    · rw [if_neg q, if_neg q]
theorem rr_zcp {u : zz_S} {σ B : Nat} (h5 : u.1 5 = nI (4 * σ)) (hσ : σ ≤ 128) (hB : B + 4 * σ ≤ 4096) (h4 : B % 4 = 0) : ∀ (d i n : Nat), i + d = σ → zf_Loader_writeImage_b2 (n + d + 1) (u.1, va_up u.2.1 0 (rr_cpw (u.2.1 0) (u.2.1 3) (B / 4) i), u.2.2) (nI B) (nI (4 * i)) = zf_Loader_writeImage_b39 xx_fu (u.1, va_up u.2.1 0 (rr_cpw (u.2.1 0) (u.2.1 3) (B / 4) σ), u.2.2) (nI B) 0 := by
  intro d
  induction d with
  | zero =>
    intro i n h
    have e : i = σ := by omega
    subst e
    rw [zf_Loader_writeImage_b2, if_pos (by show u.1 5 ≤ nI (4 * i); rw [h5]; exact nI_le (Nat.le_refl _) (by omega)), rr_nm]
  | succ d ih =>
    intro i n h
    rw [zf_Loader_writeImage_b2, if_neg (by show ¬ u.1 5 ≤ nI (4 * i); rw [h5]; exact nI_ge (by omega) (by omega)), zf_ModuleFile_imageWord, show (8 : Int32) + nI (4 * i) / (4 : Int32) = nI (8 + i) from by rw [show (4 : Int32) = nI 4 from rfl, pk_div (by omega) (by decide) (by decide), show 4 * i / 4 = i by omega]; exact nI_add 8 i, rr_tz _ (by omega), rr_b2s, rr_b2s, nI_add, rr_putZ _ _ (by omega), Option.bind_some, rr_nm, show nI (4 * i) + (4 : Int32) = nI (4 * (i + 1)) from nI_add (4 * i) 4]
    show zf_Loader_writeImage_b2 _ (u.1, va_up (va_up u.2.1 0 (rr_cpw (u.2.1 0) (u.2.1 3) (B / 4) i)) 0 (va_up (va_up u.2.1 0 (rr_cpw (u.2.1 0) (u.2.1 3) (B / 4) i) 0) ((B + 4 * i) / 4) (u.2.1 3 (8 + i))), u.2.2) _ _ = _
    rw [rr_upU, rr_upS, show (B + 4 * i) / 4 = B / 4 + i by omega, rr_cpwS]
    exact ih (i + 1) n (by omega)
theorem rr_zmd {u : zz_S} {w : qm_S} {φ : Nat → Nat} {ms : List Nat} {S σ a b c B : Nat} (hB : rr_B u w φ ms S) (hb : rr_fb σ a b c) (hz : rr_hz u σ a b c) (hp : ∀ k, k < c → rr_pB (u.2.1 3) σ a b k = true) (hf : ∀ j, j < a → ∃ k, k < S ∧ w.2 2 k = u.2.1 3 (8 + σ + 2 * j)) (hb4 : B + 4 * σ ≤ 4096) (h4 : B % 4 = 0) (g : Nat → Int32) : ∀ (d k n : Nat), k + d = c → zf_Loader_writeImage_b39 (n + d + 1) (u.1, va_up u.2.1 0 (rr_cpw g (rr_mw (rr_fm (u.2.1 3) (rr_sa w) σ (8 + σ + 2 * a + 3 * b) B) (rr_of (u.2.1 3) (8 + σ + 2 * a + 3 * b)) (u.2.1 3) k) (B / 4) σ), u.2.2) (nI B) (nI k) = some (u.1, va_up u.2.1 0 (rr_cpw g (rr_mw (rr_fm (u.2.1 3) (rr_sa w) σ (8 + σ + 2 * a + 3 * b) B) (rr_of (u.2.1 3) (8 + σ + 2 * a + 3 * b)) (u.2.1 3) c) (B / 4) σ), u.2.2) := by
  have hb0 := hb
  obtain ⟨b1, b2, b3, b4, b5⟩ := hb
  intro d
  induction d with
  | zero =>
    intro k n h
    have e : k = c := by omega
    subst e
    rw [zf_Loader_writeImage_b39, if_pos (by show u.1 8 ≤ nI k; rw [hz.2.2.2.1]; exact nI_le (Nat.le_refl _) (by omega))]
  | succ d ih =>
    intro k n h
    have hk : k < c := by omega
    obtain ⟨U, hU⟩ : ∃ U : zz_S, U = (u.1, va_up u.2.1 0 (rr_cpw g (rr_mw (rr_fm (u.2.1 3) (rr_sa w) σ (8 + σ + 2 * a + 3 * b) B) (rr_of (u.2.1 3) (8 + σ + 2 * a + 3 * b)) (u.2.1 3) k) (B / 4) σ), u.2.2) := ⟨_, rfl⟩
    have hBU : rr_B U w φ ms S := by rw [hU]; exact hB
    have hzU : rr_hz U σ a b c := by rw [hU]; exact hz
    have hWU : U.2.1 3 = u.2.1 3 := by rw [hU]; rfl
    have hpU : rr_pB (U.2.1 3) σ a b k = true := by rw [hWU]; exact hp k hk
    have hfU : ∀ j, j < a → ∃ k, k < S ∧ w.2 2 k = U.2.1 3 (8 + σ + 2 * j) := by rw [hWU]; exact hf
    obtain ⟨x1, x2, x3, x4⟩ := rr_zpl hzU (i := k) (by omega)
    obtain ⟨p1, ⟨p2, p4⟩, p3⟩ := rr_pf b3 b2 (hp k hk)
    have ev := rr_zval hBU hb0 hzU hk hpU hfU B
    have ed := rr_zdis hBU hb0 hzU hk hpU hfU B
    rw [hWU] at x1 x2 ev ed
    have fin : ∀ y, y = rr_yv (u.2.1 3) (rr_sa w) σ (8 + σ + 2 * a + 3 * b) B k → zf_Loader_writeImage_b90 (zf_Loader_writeImage_b39 (n + d + 1)) U (nI B) (nI k) (nI B + u.2.1 3 (8 + σ + 2 * a + 3 * b + 4 * k + 1)) y = some (u.1, va_up u.2.1 0 (rr_cpw g (rr_mw (rr_fm (u.2.1 3) (rr_sa w) σ (8 + σ + 2 * a + 3 * b) B) (rr_of (u.2.1 3) (8 + σ + 2 * a + 3 * b)) (u.2.1 3) c) (B / 4) σ), u.2.2) := fun y hy => by
      rw [zf_Loader_writeImage_b90, x1, rr_b2s, p2, nI_add, rr_wordZ _ (by omega), rr_b2s, rr_mended, rr_b2s, rr_putZ _ _ (by omega), Option.bind_some, rr_nm, nI_1, hy]
      refine Eq.trans ?_ (ih (k + 1) n (by omega))
      have e1 : U.2.1 0 = rr_cpw g (rr_mw (rr_fm (u.2.1 3) (rr_sa w) σ (8 + σ + 2 * a + 3 * b) B) (rr_of (u.2.1 3) (8 + σ + 2 * a + 3 * b)) (u.2.1 3) k) (B / 4) σ := by rw [hU]; rfl
      have e2 : (B + 4 * rr_of (u.2.1 3) (8 + σ + 2 * a + 3 * b) k) / 4 = B / 4 + rr_of (u.2.1 3) (8 + σ + 2 * a + 3 * b) k := by omega
      have e3 : U.2.1 0 (B / 4 + rr_of (u.2.1 3) (8 + σ + 2 * a + 3 * b) k) = rr_mw (rr_fm (u.2.1 3) (rr_sa w) σ (8 + σ + 2 * a + 3 * b) B) (rr_of (u.2.1 3) (8 + σ + 2 * a + 3 * b)) (u.2.1 3) k (8 + rr_of (u.2.1 3) (8 + σ + 2 * a + 3 * b) k) := by
        rw [e1, rr_cpw, if_pos (by omega), show B / 4 + rr_of (u.2.1 3) (8 + σ + 2 * a + 3 * b) k - B / 4 = rr_of (u.2.1 3) (8 + σ + 2 * a + 3 * b) k by omega]
      rw [e2, e3, e1, rr_cpwU _ _ _ p4, hU]
      show zf_Loader_writeImage_b39 _ (u.1, va_up (va_up u.2.1 0 _) 0 _, u.2.2) _ _ = _
      rw [rr_upU]
      rfl
    rw [← hU, zf_Loader_writeImage_b39, if_neg (by rw [hzU.2.2.2.1]; exact nI_ge hk (by omega)), x2, rr_b2s, rr_nm, x1, rr_b2s, rr_isD, rr_b2s, ev, rr_b2s, ed, rr_b2s, show n + (d + 1) = n + d + 1 from rfl]
    cases q : rr_diB (u.2.1 3 (8 + σ + 2 * a + 3 * b + 4 * k))
    · rw [if_pos rr_bif]
      exact fin _ (by rw [rr_yv, q, if_neg (by decide)])
    · rw [if_neg (by decide)]
      exact fin _ (by rw [rr_yv, q, if_pos rfl])
theorem rr_wri {u : zz_S} {w : qm_S} {φ : Nat → Nat} {ms : List Nat} {S σ a b c B : Nat} (hB : rr_B u w φ ms S) (hb : rr_fb σ a b c) (hz : rr_hz u σ a b c) (hp : ∀ k, k < c → rr_pB (u.2.1 3) σ a b k = true) (hf : ∀ j, j < a → ∃ k, k < S ∧ w.2 2 k = u.2.1 3 (8 + σ + 2 * j)) (hb4 : B + 4 * σ ≤ 4096) (h4 : B % 4 = 0) : zf_Loader_writeImage u (nI B) = some (u.1, va_up u.2.1 0 (rr_cpw (u.2.1 0) (rr_mw (rr_fm (u.2.1 3) (rr_sa w) σ (8 + σ + 2 * a + 3 * b) B) (rr_of (u.2.1 3) (8 + σ + 2 * a + 3 * b)) (u.2.1 3) c) (B / 4) σ), u.2.2) := by
  have hσ := hb.2.1
  have hc := hb.2.2.2.2
  have h1 := rr_zcp hz.1 hσ hb4 h4 σ 0 (4999 - σ) (by omega)
  have h2 := rr_zmd hB hb hz hp hf hb4 h4 (u.2.1 0) c 0 (4999 - c) (by omega)
  rw [show 4999 - σ + σ + 1 = xx_fu by unfold xx_fu; omega, rr_cpw0, rr_upI, Nat.mul_zero, nI_0] at h1
  rw [show 4999 - c + c + 1 = xx_fu by unfold xx_fu; omega, nI_0] at h2
  exact h1.trans h2
theorem rr_Mim {u : zz_S} {w : qm_S} {T t : Nat → Int32} {N σ B : Nat} (hM : rr_M u w) (ht : rr_tw T t N) (hN : 32 + 4 * σ ≤ N) (h4 : B % 4 = 0) : ∀ i, i < 4096 → rr_cpb (w.2 1) t B (4 * σ) i = rr_by (rr_cpw (u.2.1 0) T (B / 4) σ (i / 4)) (i % 4) := by
  intro i hi
  unfold rr_cpb rr_cpw
  by_cases c : B ≤ i ∧ i < B + 4 * σ
  · rw [if_pos c, if_pos (by omega), ht _ (by omega), show (32 + (i - B)) / 4 = 8 + (i / 4 - B / 4) by omega, show (32 + (i - B)) % 4 = i % 4 by omega]
  · rw [if_neg c, if_neg (by omega), hM i hi]
