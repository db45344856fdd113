/-! a run from its start -/
def rr_zf (f : Nat → Int32) (k : Nat) : Nat → Int32 := fun i => if i < k then 0 else f i
theorem rr_zf0 (f : Nat → Int32) : rr_zf f 0 = f := by
  funext i
  simp [rr_zf]
theorem rr_zfS (f : Nat → Int32) (k : Nat) : va_up (rr_zf f k) k 0 = rr_zf f (k + 1) := by
  funext i
  simp only [va_up, rr_zf]
  by_cases h : i = k
  · rw [if_pos h, if_pos (by omega)]
  · rw [if_neg h]
    by_cases h2 : i < k
    · rw [if_pos h2, if_pos (by omega)]
    · rw [if_neg h2, if_neg (by omega)]
theorem rr_filll (u : zz_S) : ∀ (d k n : Nat), k + d = 32 → zf_Arrays_fill_b5 (n + d + 1) (u.1, va_up u.2.1 2 (rr_zf (u.2.1 2) k), u.2.2) 0 (nI k) 32 = some (u.1, va_up u.2.1 2 (rr_zf (u.2.1 2) 32), u.2.2) := by
  intro d
  induction d with
  | zero =>
    intro k n h
    have e : k = 32 := by omega
    subst e
    rw [zf_Arrays_fill_b5, if_pos (show (32 : Int32) ≤ nI 32 from by decide)]
  | succ d ih =>
    intro k n h
    rw [zf_Arrays_fill_b5, if_neg (show ¬ (32 : Int32) ≤ nI k from nI_ge (b := 32) (by omega) (by decide)), rr_as (by omega) (by decide), Option.bind_some]
    simp only [xx_nm, rr_upS, rr_upU]
    rw [rr_zfS, nI_1]
    exact ih (k + 1) n (by omega)
theorem rr_fillZ (u : zz_S) : zf_Arrays_fill u 0 = some (u.1, va_up u.2.1 2 (rr_zf (u.2.1 2) 32), u.2.2) := by
  have h := rr_filll u 32 0 4967 (by decide)
  rw [rr_zf0, rr_upI, show 4967 + 32 + 1 = xx_fu from rfl, nI_0] at h
  unfold zf_Arrays_fill
  simp only [xx_nm]
  exact h
theorem rr_a1 {α : Type} (f : Nat → α) (v : α) : xx_as f 32 (1 : Int32) v = some (va_up f 1 v) := rr_as (i := 1) (by decide) (by decide)
theorem rr_a2 {α : Type} (f : Nat → α) (v : α) : xx_as f 32 (2 : Int32) v = some (va_up f 2 v) := rr_as (i := 2) (by decide) (by decide)
theorem rr_a10 {α : Type} (f : Nat → α) (v : α) : xx_as f 32 (10 : Int32) v = some (va_up f 10 v) := rr_as (i := 10) (by decide) (by decide)
theorem rr_a11 {α : Type} (f : Nat → α) (v : α) : xx_as f 32 (11 : Int32) v = some (va_up f 11 v) := rr_as (i := 11) (by decide) (by decide)
def rr_r0 (f : Nat → Int32) (a b : Int32) : Nat → Int32 := va_up (va_up (va_up (va_up (rr_zf f 32) 1 (-4)) 2 4096) 10 a) 11 b
theorem rr_r0e (f g : Nat → Int32) (a b : Int32) (k : Nat) (hk : k < 32) : rr_r0 f a b k = rr_r0 g a b k := by
  unfold rr_r0 va_up rr_zf
  simp only [hk, if_true]
theorem rr_runsl (w : qm_S) (p a b F : Int32) : ∀ (d k n : Nat), k + d = 32 → qf_Model_runs_b3 (n + d + 1) (w.1, va_up w.2 14 (rr_zf (w.2 14) k)) p a b F (nI k) = qf_Model_runs_b62 xx_fu (va_up w.1 30 p, va_up w.2 14 (rr_r0 (w.2 14) a b)) F := by
  intro d
  induction d with
  | zero =>
    intro k n h
    have e : k = 32 := by omega
    subst e
    rw [qf_Model_runs_b3, if_pos (show (32 : Int32) ≤ nI 32 from by decide)]
    simp only [rr_a1, rr_a2, rr_a10, rr_a11, Option.bind_some, xx_nm, rr_upS, rr_upU]
    rfl
  | succ d ih =>
    intro k n h
    rw [qf_Model_runs_b3, if_neg (show ¬ (32 : Int32) ≤ nI k from nI_ge (b := 32) (by omega) (by decide)), rr_as (by omega) (by decide), Option.bind_some]
    simp only [xx_nm, rr_upS, rr_upU]
    rw [rr_zfS, nI_1]
    exact ih (k + 1) n (by omega)
theorem rr_run {u : zz_S} {w : qm_S} {ms : List Nat} {r Z G : Nat → Nat} (hS : rr_S u w) (hG : rr_G u ms r G) (hL : rr_L w ms r Z G) (hM : rr_M u w) (p a b : Int32) {F : Nat} (hF : F ≤ 2000) (hm : w.1 20 = 0) (ht : w.1 19 = 0) : ∃ (t : Nat) (u1 : zz_S) (w1 : qm_S) (b1 : Bool), zf_Machine_run u p a b (nI F) = some u1 ∧ qf_Model_runs w p a b (nI F) = some (rr_bi b1, w1) ∧ rr_ran u u1 w w1 b1 t := by
  have hz : zf_Machine_run u p a b (nI F) = zf_Machine_run_b56 xx_fu (va_up (va_up (va_up u.1 3 p) 1 0) 2 0, va_up u.2.1 2 (rr_r0 (u.2.1 2) a b), u.2.2) (nI F) := by
    unfold zf_Machine_run
    rw [rr_fillZ, Option.bind_some]
    simp only [rr_a1, rr_a2, rr_a10, rr_a11, Option.bind_some, xx_nm, rr_upS, rr_upU]
    rfl
  have hq : qf_Model_runs w p a b (nI F) = qf_Model_runs_b62 xx_fu (va_up w.1 30 p, va_up w.2 14 (rr_r0 (w.2 14) a b)) (nI F) := by
    have h := rr_runsl w p a b (nI F) 32 0 4967 (by decide)
    rw [rr_zf0, rr_upI, show 4967 + 32 + 1 = xx_fu from rfl, nI_0] at h
    unfold qf_Model_runs
    simp only [xx_nm]
    exact h
  obtain ⟨t, u1, w1, b1, e1, e2, fz, fq, rest⟩ := rr_runl (ms := ms) (r := r) (Z := Z) (G := G) hF F 0 (4998 - F) (va_up (va_up (va_up u.1 3 p) 1 0) 2 0, va_up u.2.1 2 (rr_r0 (u.2.1 2) a b), u.2.2) (va_up w.1 30 p, va_up w.2 14 (rr_r0 (w.2 14) a b)) (by omega) hS hG hL ⟨hM, fun k _ hk => rr_r0e _ _ _ _ _ hk, rfl⟩ rfl rfl rfl rfl hm ht
  rw [show 4998 - F + F + 2 = xx_fu by unfold xx_fu; omega] at e1 e2
  refine ⟨t, u1, w1, b1, hz.trans e1, hq.trans e2, ⟨fun k k1 k2 k3 => (fz.1 k k1 k2 k3).trans ?_, fz.2⟩, ⟨fun k k1 k2 k3 k4 => (fq.1 k k1 k2 k3 k4).trans (rr_upN _ _ k4), fun k k1 k2 => (fq.2 k k1 k2).trans (rr_upN _ _ k2)⟩, rest⟩
  show va_up (va_up (va_up u.1 3 p) 1 0) 2 0 k = u.1 k
  rw [rr_upN _ _ k2, rr_upN _ _ k1, rr_upN _ _ k3]
