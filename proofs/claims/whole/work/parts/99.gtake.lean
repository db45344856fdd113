/-! a module is taken out -/
theorem rr_nnS {β : Type} (a : Nat) (f : Nat → Option β) : xx_nn (some a) f = f a := rfl
/-- how many of the first k are kept; what they leave in a row of words -/
def rr_cn (p : Nat → Bool) : Nat → Nat
  | 0 => 0
  | k + 1 => bif p k then rr_cn p k + 1 else rr_cn p k
def rr_cp {α : Type} (f : Nat → α) (p : Nat → Bool) : Nat → Nat → α
  | 0 => f
  | k + 1 => bif p k then va_up (rr_cp f p k) (rr_cn p k) (f k) else rr_cp f p k
theorem rr_cnT {p : Nat → Bool} {k : Nat} (h : p k = true) : rr_cn p (k + 1) = rr_cn p k + 1 := by rw [rr_cn, h]; rfl
theorem rr_cnF {p : Nat → Bool} {k : Nat} (h : p k = false) : rr_cn p (k + 1) = rr_cn p k := by rw [rr_cn, h]; rfl
theorem rr_cpT {α : Type} {f : Nat → α} {p : Nat → Bool} {k : Nat} (h : p k = true) : rr_cp f p (k + 1) = va_up (rr_cp f p k) (rr_cn p k) (f k) := by rw [rr_cp, h]; rfl
theorem rr_cpF {α : Type} {f : Nat → α} {p : Nat → Bool} {k : Nat} (h : p k = false) : rr_cp f p (k + 1) = rr_cp f p k := by rw [rr_cp, h]; rfl
theorem rr_cnl (p : Nat → Bool) : ∀ k, rr_cn p k ≤ k := by
  intro k
  induction k with
  | zero => exact Nat.le_refl _
  | succ k ih =>
    cases h : p k
    · rw [rr_cnF h]; omega
    · rw [rr_cnT h]; omega
theorem rr_cnm (p : Nat → Bool) (j : Nat) : ∀ k, j ≤ k → rr_cn p j ≤ rr_cn p k := by
  intro k
  induction k with
  | zero => intro h; rw [show j = 0 by omega]; exact Nat.le_refl _
  | succ k ih =>
    intro h
    by_cases e : j = k + 1
    · rw [e]; exact Nat.le_refl _
    · have := ih (by omega)
      cases h : p k
      · rw [rr_cnF h]; exact this
      · rw [rr_cnT h]; omega
/-- from the count on nothing has changed -/
theorem rr_cpk {α : Type} (f : Nat → α) (p : Nat → Bool) (i : Nat) : ∀ k, rr_cn p k ≤ i → rr_cp f p k i = f i := by
  intro k
  induction k with
  | zero => intro _; rfl
  | succ k ih =>
    intro h
    cases c : p k
    · rw [rr_cnF c] at h
      rw [rr_cpF c]
      exact ih h
    · rw [rr_cnT c] at h
      rw [rr_cpT c, rr_upN _ _ (by omega)]
      exact ih (by omega)
/-- a kept one lies where it is counted -/
theorem rr_cpj {α : Type} (f : Nat → α) (p : Nat → Bool) (j : Nat) (hp : p j = true) : ∀ k, j < k → rr_cp f p k (rr_cn p j) = f j := by
  intro k
  induction k with
  | zero => intro h; exact absurd h (by omega)
  | succ k ih =>
    intro h
    by_cases e : j = k
    · subst e
      rw [rr_cpT hp, rr_upS]
    · cases c : p k
      · rw [rr_cpF c]
        exact ih (by omega)
      · have h1 := rr_cnm p (j + 1) k (by omega)
        rw [rr_cnT hp] at h1
        rw [rr_cpT c, rr_upN _ _ (by omega)]
        exact ih (by omega)
theorem rr_cne (p : Nat → Bool) (i : Nat) : ∀ k, i < rr_cn p k → ∃ j, j < k ∧ p j = true ∧ rr_cn p j = i := by
  intro k
  induction k with
  | zero => intro h; exact absurd h (Nat.not_lt_zero _)
  | succ k ih =>
    intro h
    cases c : p k
    · rw [rr_cnF c] at h
      obtain ⟨j, h1, h2⟩ := ih h
      exact ⟨j, by omega, h2⟩
    · rw [rr_cnT c] at h
      by_cases e : i = rr_cn p k
      · exact ⟨k, by omega, c, e.symm⟩
      · obtain ⟨j, h1, h2⟩ := ih (by omega)
        exact ⟨j, by omega, h2⟩
def rr_cf (f : Nat → Int32) (S m : Nat) : Nat := ((List.range S).filter (fun k => decide (f k = nI m))).length
theorem rr_cfS (f g : Nat → Int32) (S m : Nat) (h : ∀ k, k < S → g k = f k) : rr_cf g (S + 1) m = rr_cf f S m + if g S = nI m then 1 else 0 := rr_cntS (fun _ => 0, fun _ => f) (fun _ => 0, fun _ => g) S m h
theorem rr_cfC (f : Nat → Int32) (p : Nat → Bool) (m : Nat) : ∀ k, (∀ j, j < k → p j = false → f j ≠ nI m) → rr_cf (rr_cp f p k) (rr_cn p k) m = rr_cf f k m := by
  intro k
  induction k with
  | zero => intro _; rfl
  | succ k ih =>
    intro h
    have e := ih (fun j hj => h j (by omega))
    have e2 : rr_cf f (k + 1) m = rr_cf f k m + if f k = nI m then 1 else 0 := rr_cfS f f k m (fun _ _ => rfl)
    cases c : p k
    · rw [rr_cpF c, rr_cnF c, e, e2, if_neg (h k (by omega) c)]
      rfl
    · rw [rr_cpT c, rr_cnT c, rr_cfS (rr_cp f p k) _ _ m (fun j hj => rr_upN _ _ (by omega)), rr_upS, e, e2]
/-- the reference's walk over the symbols -/
theorem rr_up4 {α : Type} (f : Nat → α) (a b c d a1 b1 c1 d1 : α) : va_up (va_up (va_up (va_up (va_up (va_up (va_up (va_up f 2 a) 3 b) 4 c) 5 d) 2 a1) 3 b1) 4 c1) 5 d1 = va_up (va_up (va_up (va_up f 2 a1) 3 b1) 4 c1) 5 d1 := by
  funext j
  simp only [va_up]
  by_cases h5 : j = 5
  · subst h5; simp
  by_cases h4 : j = 4
  · subst h4; simp
  by_cases h3 : j = 3
  · subst h3; simp
  by_cases h2 : j = 2
  · subst h2; simp
  simp [h5, h4, h3, h2]
def rr_w4 (W : Nat → Nat → Int32) (a b c d : Nat → Int32) : Nat → Nat → Int32 := va_up (va_up (va_up (va_up W 2 a) 3 b) 4 c) 5 d
theorem rr_rmS (n : Nat) (W : qm_S) {m c k S : Nat} (hW : W.1 3 = nI S) (hS : S ≤ 40) (hk : k < S) (hc : c ≤ k) (h : ¬ W.2 5 k = nI m) : qf_Model_remove_b11 (n + 1) W (nI m) (nI c) (nI k) = qf_Model_remove_b11 n (W.1, rr_w4 W.2 (va_up (W.2 2) c (W.2 2 k)) (va_up (W.2 3) c (W.2 3 k)) (va_up (W.2 4) c (W.2 4 k)) (va_up (W.2 5) c (W.2 5 k))) (nI m) (nI (c + 1)) (nI (k + 1)) := by
  rw [qf_Model_remove_b11, if_neg (by rw [hW]; exact nI_ge hk (by omega)), rr_ag (by omega) (by decide), Option.bind_some, if_neg h, rr_ag (by omega) (by decide), Option.bind_some, rr_as (by omega) (by decide), Option.bind_some]
  simp only [xx_nm]
  rw [rr_ag (by omega) (by decide), Option.bind_some, rr_as (by omega) (by decide), Option.bind_some, rr_ag (by omega) (by decide), Option.bind_some, rr_as (by omega) (by decide), Option.bind_some, rr_ag (by omega) (by decide), Option.bind_some, rr_as (by omega) (by decide), Option.bind_some, qf_Model_remove_b83]
  simp only [xx_nm]
  rw [nI_1, nI_1]
  rfl
theorem rr_rmN (n : Nat) (W : qm_S) {m c k S : Nat} (hW : W.1 3 = nI S) (hS : S ≤ 40) (hk : k < S) (h : W.2 5 k = nI m) : qf_Model_remove_b11 (n + 1) W (nI m) (nI c) (nI k) = qf_Model_remove_b11 n W (nI m) (nI c) (nI (k + 1)) := by
  rw [qf_Model_remove_b11, if_neg (by rw [hW]; exact nI_ge hk (by omega)), rr_ag (by omega) (by decide), Option.bind_some, if_pos h, qf_Model_remove_b83]
  simp only [xx_nm]
  rw [nI_1]
def rr_cq (w : qm_S) (p : Nat → Bool) (k : Nat) : qm_S := (w.1, rr_w4 w.2 (rr_cp (w.2 2) p k) (rr_cp (w.2 3) p k) (rr_cp (w.2 4) p k) (rr_cp (w.2 5) p k))
theorem rr_rmq {w : qm_S} {m S : Nat} (hw : w.1 3 = nI S) (hS : S ≤ 40) {p : Nat → Bool} (hp : ∀ j, j < S → (p j = false ↔ w.2 5 j = nI m)) : ∀ (d k n : Nat), k + d = S → qf_Model_remove_b11 (n + d + 1) (rr_cq w p k) (nI m) (nI (rr_cn p k)) (nI k) = qf_Model_remove_b96 xx_fu (va_up w.1 3 (nI (rr_cn p S)), (rr_cq w p S).2) (nI m) 0 := by
  intro d
  induction d with
  | zero =>
    intro k n h
    have e : k = S := by omega
    subst e
    rw [qf_Model_remove_b11, if_pos (by show w.1 3 ≤ nI k; rw [hw]; exact nI_le (Nat.le_refl _) (by omega))]
    rfl
  | succ d ih =>
    intro k n h
    have hk : k < S := by omega
    have hc := rr_cnl p k
    have r5 : rr_cp (w.2 5) p k k = w.2 5 k := rr_cpk _ p k k hc
    cases c : p k
    · have h5 : (rr_cq w p k).2 5 k = nI m := r5.trans ((hp k hk).mp c)
      refine (rr_rmN _ (rr_cq w p k) (S := S) hw hS hk h5).trans ?_
      have e : rr_cq w p (k + 1) = rr_cq w p k := by
        unfold rr_cq
        rw [rr_cpF c, rr_cpF c, rr_cpF c, rr_cpF c]
      have e2 := ih (k + 1) n (by omega)
      rw [e, rr_cnF c] at e2
      exact e2
    · have h5 : ¬ (rr_cq w p k).2 5 k = nI m := fun z => by
        have := (hp k hk).mpr (r5.symm.trans z)
        rw [c] at this
        cases this
      refine (rr_rmS _ (rr_cq w p k) (S := S) hw hS hk hc h5).trans ?_
      have e : rr_cq w p (k + 1) = ((rr_cq w p k).1, rr_w4 (rr_cq w p k).2 (va_up ((rr_cq w p k).2 2) (rr_cn p k) ((rr_cq w p k).2 2 k)) (va_up ((rr_cq w p k).2 3) (rr_cn p k) ((rr_cq w p k).2 3 k)) (va_up ((rr_cq w p k).2 4) (rr_cn p k) ((rr_cq w p k).2 4 k)) (va_up ((rr_cq w p k).2 5) (rr_cn p k) ((rr_cq w p k).2 5 k))) := by
        have g2 : (rr_cq w p k).2 2 = rr_cp (w.2 2) p k := rfl
        have g3 : (rr_cq w p k).2 3 = rr_cp (w.2 3) p k := rfl
        have g4 : (rr_cq w p k).2 4 = rr_cp (w.2 4) p k := rfl
        have g5 : (rr_cq w p k).2 5 = rr_cp (w.2 5) p k := rfl
        rw [g2, g3, g4, g5, rr_cpk _ p k k hc, rr_cpk _ p k k hc, rr_cpk _ p k k hc, rr_cpk _ p k k hc, ← rr_cpT c, ← rr_cpT c, ← rr_cpT c, ← rr_cpT c]
        show (w.1, rr_w4 _ _ _ _ _) = (w.1, rr_w4 (rr_w4 _ _ _ _ _) _ _ _ _)
        unfold rr_w4
        rw [rr_up4]
      have e2 := ih (k + 1) n (by omega)
      rw [e, rr_cnT c] at e2
      exact e2
/-- the row of needs is cleared -/
def rr_cl (f : Nat → Int32) (m j : Nat) : Nat → Int32 := fun i => if 12 * m ≤ i ∧ i < 12 * m + j then 0 else f i
theorem rr_cl0 (f : Nat → Int32) (m : Nat) : rr_cl f m 0 = f := by
  funext i
  unfold rr_cl
  rw [if_neg (by omega)]
theorem rr_clS (f : Nat → Int32) (m j : Nat) : va_up (rr_cl f m j) (12 * m + j) 0 = rr_cl f m (j + 1) := by
  funext i
  by_cases h : i = 12 * m + j
  · subst h
    rw [rr_upS, rr_cl, if_pos (by omega)]
  · rw [rr_upN _ _ h, rr_cl, rr_cl]
    by_cases q : 12 * m ≤ i ∧ i < 12 * m + j
    · rw [if_pos q, if_pos (by omega)]
    · rw [if_neg q, if_neg (by omega)]
theorem rr_rml (w : qm_S) {m : Nat} (hm : m < 12) : ∀ (d k n : Nat), k + d = 12 → qf_Model_remove_b96 (n + d + 1) (w.1, va_up w.2 12 (rr_cl (w.2 12) m k)) (nI m) (nI k) = some (w.1, va_up w.2 12 (rr_cl (w.2 12) m 12)) := by
  intro d
  induction d with
  | zero =>
    intro k n h
    have e : k = 12 := by omega
    subst e
    rw [qf_Model_remove_b96, if_pos (show (12 : Int32) ≤ nI 12 from nI_le (a := 12) (Nat.le_refl _) (by decide))]
  | succ d ih =>
    intro k n h
    rw [qf_Model_remove_b96, if_neg (show ¬ (12 : Int32) ≤ nI k from nI_ge (b := 12) (by omega) (by decide)), show (12 : Int32) * nI m = nI (12 * m) from pk_mul 12 m, nI_add, rr_nb0, rr_as (by omega) (by decide), Option.bind_some]
    simp only [xx_nm]
    rw [nI_1, show va_up w.2 12 (rr_cl (w.2 12) m k) 12 = rr_cl (w.2 12) m k from rr_upS _ _ _, rr_upU, rr_clS]
    exact ih (k + 1) n (by omega)
theorem rr_rem {w : qm_S} {m S : Nat} (hm : m < 12) (hw : w.1 3 = nI S) (hS : S ≤ 40) {p : Nat → Bool} (hp : ∀ j, j < S → (p j = false ↔ w.2 5 j = nI m)) : qf_Model_remove w (nI m) = some (va_up w.1 3 (nI (rr_cn p S)), va_up (rr_w4 (va_up w.2 6 (va_up (w.2 6) m 0)) (rr_cp (w.2 2) p S) (rr_cp (w.2 3) p S) (rr_cp (w.2 4) p S) (rr_cp (w.2 5) p S)) 12 (rr_cl (w.2 12) m 12)) := by
  unfold qf_Model_remove
  rw [rr_nb0, rr_as hm (by decide), Option.bind_some]
  simp only [xx_nm]
  have h := rr_rmq (w := (w.1, va_up w.2 6 (va_up (w.2 6) m 0))) (m := m) (S := S) hw hS (p := p) hp S 0 (4999 - S) (by omega)
  rw [show 4999 - S + S + 1 = xx_fu by unfold xx_fu; omega, show rr_cn p 0 = 0 from rfl, nI_0] at h
  have e : rr_cq (w.1, va_up w.2 6 (va_up (w.2 6) m 0)) p 0 = (w.1, va_up w.2 6 (va_up (w.2 6) m 0)) := by
    unfold rr_cq rr_w4
    have : ∀ W : Nat → Nat → Int32, va_up (va_up (va_up (va_up W 2 (W 2)) 3 (W 3)) 4 (W 4)) 5 (W 5) = W := fun W => by
      have e2 : va_up W 2 (W 2) = W := rr_upI W 2
      rw [e2, rr_upI W 3, rr_upI W 4, rr_upI W 5]
    exact congrArg (fun z => (w.1, z)) (this _)
  rw [e] at h
  rw [h]
  have h2 := rr_rml (va_up w.1 3 (nI (rr_cn p S)), (rr_cq (w.1, va_up w.2 6 (va_up (w.2 6) m 0)) p S).2) hm 12 0 4987 (by decide)
  rw [rr_cl0, rr_upI, nI_0] at h2
  exact h2
/-- the class's walk over the symbols -/
theorem rr_rzN (n : Nat) (W : zz_S) {S k c q x : Nat} {a b d : Int32} (hW : W.1 15 = nI S) (hS : S ≤ 40) (hk : k < S) (he : W.2.2.1 0 k = some q) (hq : q ∈ W.2.2.2.1.1) (hf : W.2.2.2.1.2 q = (7, [.int a, .int b, .int d, va_rf (some x)])) : zf_SymbolTable_removeOf_b4 (n + 1) W (some x) (nI c) (nI k) = zf_SymbolTable_removeOf_b4 n W (some x) (nI c) (nI (k + 1)) := by
  rw [zf_SymbolTable_removeOf_b4, if_neg (by rw [hW]; exact nI_ge hk (by omega)), rr_ag (by omega) (by decide), Option.bind_some, he, rr_onS, Option.bind_some]
  simp only [xx_nn]
  rw [rr_pq (a := some x) hq hf rfl, Option.bind_some, if_pos rfl, zf_SymbolTable_removeOf_b49, rr_nm, nI_1]
theorem rr_rzS (n : Nat) (W : zz_S) {S k c q x : Nat} {ow : Option Nat} {a b d : Int32} (hW : W.1 15 = nI S) (hS : S ≤ 40) (hk : k < S) (hc : c ≤ k) (he : W.2.2.1 0 k = some q) (hq : q ∈ W.2.2.2.1.1) (hf : W.2.2.2.1.2 q = (7, [.int a, .int b, .int d, va_rf ow])) (ho : ow ≠ some x) : zf_SymbolTable_removeOf_b4 (n + 1) W (some x) (nI c) (nI k) = zf_SymbolTable_removeOf_b4 n (W.1, W.2.1, va_up W.2.2.1 0 (va_up (W.2.2.1 0) c (some q)), W.2.2.2) (some x) (nI (c + 1)) (nI (k + 1)) := by
  rw [zf_SymbolTable_removeOf_b4, if_neg (by rw [hW]; exact nI_ge hk (by omega)), rr_ag (by omega) (by decide), Option.bind_some, he, rr_onS, Option.bind_some]
  rw [rr_nnS, rr_pq (a := ow) hq hf rfl, Option.bind_some, if_neg ho, Option.bind_some, rr_nnS, rr_zas (n := 40) hq hf (by omega) (by decide), Option.bind_some, rr_nm, zf_SymbolTable_removeOf_b49, rr_nm, nI_1, nI_1]
theorem rr_rmz {u : zz_S} {S : Nat} {x : Nat} (hu : u.1 15 = nI S) (hS : S ≤ 40) {p : Nat → Bool} (hp : ∀ j, j < S → ∃ (q : Nat) (ow : Option Nat) (a b c : Int32), u.2.2.1 0 j = some q ∧ q ∈ u.2.2.2.1.1 ∧ u.2.2.2.1.2 q = (7, [.int a, .int b, .int c, va_rf ow]) ∧ (p j = false ↔ ow = some x)) : ∀ (d k n : Nat), k + d = S → zf_SymbolTable_removeOf_b4 (n + d + 1) (u.1, u.2.1, va_up u.2.2.1 0 (rr_cp (u.2.2.1 0) p k), u.2.2.2) (some x) (nI (rr_cn p k)) (nI k) = some (va_up u.1 15 (nI (rr_cn p S)), u.2.1, va_up u.2.2.1 0 (rr_cp (u.2.2.1 0) p S), u.2.2.2) := by
  intro d
  induction d with
  | zero =>
    intro k n h
    have e : k = S := by omega
    subst e
    rw [zf_SymbolTable_removeOf_b4, if_pos (by show u.1 15 ≤ nI k; rw [hu]; exact nI_le (Nat.le_refl _) (by omega))]
    rfl
  | succ d ih =>
    intro k n h
    have hk : k < S := by omega
    have hc := rr_cnl p k
    obtain ⟨q, ow, a, b, c0, y1, y2, y3, y4⟩ := hp k hk
    have e1 : va_up u.2.2.1 0 (rr_cp (u.2.2.1 0) p k) 0 k = some q := by
      rw [rr_upS, rr_cpk _ p k k hc, y1]
    cases c : p k
    · have ho := y4.mp c
      subst ho
      refine (rr_rzN _ (u.1, u.2.1, va_up u.2.2.1 0 (rr_cp (u.2.2.1 0) p k), u.2.2.2) hu hS hk e1 y2 y3).trans ?_
      have e := ih (k + 1) n (by omega)
      rw [rr_cpF c, rr_cnF c] at e
      exact e
    · refine (rr_rzS _ (u.1, u.2.1, va_up u.2.2.1 0 (rr_cp (u.2.2.1 0) p k), u.2.2.2) hu hS hk hc e1 y2 y3 (fun z => by have := y4.mpr z; rw [c] at this; cases this)).trans ?_
      have e := ih (k + 1) n (by omega)
      rw [rr_cpT c, rr_cnT c, y1] at e
      refine Eq.trans ?_ e
      show zf_SymbolTable_removeOf_b4 _ (u.1, u.2.1, va_up (va_up u.2.2.1 0 (rr_cp (u.2.2.1 0) p k)) 0 (va_up (va_up u.2.2.1 0 (rr_cp (u.2.2.1 0) p k) 0) (rr_cn p k) (some q)), u.2.2.2) _ _ _ = _
      rw [rr_upU, rr_upS]
      rfl
/-- the class's table of modules -/
theorem rr_rtN (n : Nat) (W : zz_S) {L k c x : Nat} (hW : W.1 16 = nI L) (hL : L ≤ 12) (hk : k < L) (he : W.2.2.1 1 k = some x) : zf_ModuleTable_remove_b4 (n + 1) W (some x) (nI c) (nI k) = zf_ModuleTable_remove_b4 n W (some x) (nI c) (nI (k + 1)) := by
  rw [zf_ModuleTable_remove_b4, if_neg (by rw [hW]; exact nI_ge hk (by omega)), rr_ag (by omega) (by decide), Option.bind_some, he, if_pos rfl, zf_ModuleTable_remove_b37, rr_nm, nI_1]
theorem rr_rtS (n : Nat) (W : zz_S) {L k c x q : Nat} {l : List Value} (hW : W.1 16 = nI L) (hL : L ≤ 12) (hk : k < L) (hc : c ≤ k) (he : W.2.2.1 1 k = some q) (hx : q ≠ x) (hq : q ∈ W.2.2.2.1.1) (hf : W.2.2.2.1.2 q = (9, l)) : zf_ModuleTable_remove_b4 (n + 1) W (some x) (nI c) (nI k) = zf_ModuleTable_remove_b4 n (W.1, W.2.1, va_up W.2.2.1 1 (va_up (W.2.2.1 1) c (some q)), W.2.2.2) (some x) (nI (c + 1)) (nI (k + 1)) := by
  rw [zf_ModuleTable_remove_b4, if_neg (by rw [hW]; exact nI_ge hk (by omega)), rr_ag (by omega) (by decide), Option.bind_some, he, if_neg (fun z => hx (Option.some.inj z)), Option.bind_some]
  simp only [xx_nn]
  rw [rr_zas (n := 12) hq hf (by omega) (by decide), Option.bind_some, rr_nm, zf_ModuleTable_remove_b37, rr_nm, nI_1, nI_1]
def rr_wo (ms : List Nat) (m : Nat) : List Nat := ms.filter (fun a => decide (a ≠ m))
theorem rr_rmt {u : zz_S} {φ : Nat → Nat} {ms : List Nat} {m : Nat} (hu : u.1 16 = nI ms.length) (hl : ms.length ≤ 12) (hE : ∀ k (h : k < ms.length), u.2.2.1 1 k = some (φ ms[k])) (hi : ∀ k ∈ ms, φ k = φ m → k = m) (ho : ∀ k ∈ ms, ∃ l, φ k ∈ u.2.2.2.1.1 ∧ u.2.2.2.1.2 (φ k) = (9, l)) : ∀ (d k n : Nat) (e : Nat → Option Nat), k + d = ms.length → (∀ j, k ≤ j → e j = u.2.2.1 1 j) → (∀ j, j < (rr_wo (ms.take k) m).length → e j = ((rr_wo (ms.take k) m)[j]?).map φ) → ∃ e1, zf_ModuleTable_remove_b4 (n + d + 1) (u.1, u.2.1, va_up u.2.2.1 1 e, u.2.2.2) (some (φ m)) (nI (rr_wo (ms.take k) m).length) (nI k) = some (va_up u.1 16 (nI (rr_wo ms m).length), u.2.1, va_up u.2.2.1 1 e1, u.2.2.2) ∧ ∀ j, j < (rr_wo ms m).length → e1 j = ((rr_wo ms m)[j]?).map φ := by
  intro d
  induction d with
  | zero =>
    intro k n e h h1 h2
    have hk : k = ms.length := by omega
    subst hk
    rw [List.take_length] at h2 ⊢
    refine ⟨e, ?_, h2⟩
    rw [zf_ModuleTable_remove_b4, if_pos (by show u.1 16 ≤ nI ms.length; rw [hu]; exact nI_le (Nat.le_refl _) (by omega))]
    rfl
  | succ d ih =>
    intro k n e h h1 h2
    have hk : k < ms.length := by omega
    have hm := List.getElem_mem hk
    have ek : va_up u.2.2.1 1 e 1 k = some (φ ms[k]) := by rw [rr_upS, h1 k (Nat.le_refl _), hE k hk]
    have et : rr_wo (ms.take (k + 1)) m = rr_wo (ms.take k) m ++ (if ms[k] ≠ m then [ms[k]] else []) := by
      unfold rr_wo
      rw [List.take_succ_eq_append_getElem hk, List.filter_append]
      congr 1
      by_cases q : ms[k] = m
      · simp [q]
      · simp [q]
    have hc : (rr_wo (ms.take k) m).length ≤ k := Nat.le_trans (List.length_filter_le _ _) (by rw [List.length_take]; omega)
    by_cases q : ms[k] = m
    · rw [if_neg (fun z => z q), List.append_nil] at et
      obtain ⟨e1, a1, a2⟩ := ih (k + 1) n e (by omega) (fun j hj => h1 j (by omega)) (by rw [et]; exact h2)
      rw [et] at a1
      refine ⟨e1, ?_, a2⟩
      rw [q] at ek
      exact (rr_rtN _ (u.1, u.2.1, va_up u.2.2.1 1 e, u.2.2.2) hu hl hk ek).trans a1
    · obtain ⟨l, o1, o2⟩ := ho _ hm
      rw [if_pos q] at et
      have el : (rr_wo (ms.take (k + 1)) m).length = (rr_wo (ms.take k) m).length + 1 := by rw [et, List.length_append]; rfl
      obtain ⟨e1, a1, a2⟩ := ih (k + 1) n (va_up e (rr_wo (ms.take k) m).length (some (φ ms[k]))) (by omega) (fun j hj => by rw [rr_upN _ _ (by omega)]; exact h1 j (by omega)) (fun j hj => by
        rw [el] at hj
        rw [et]
        by_cases c : j = (rr_wo (ms.take k) m).length
        · rw [c, rr_upS, List.getElem?_append_right (Nat.le_refl _), Nat.sub_self]
          rfl
        · rw [rr_upN _ _ c, List.getElem?_append_left (by omega)]
          exact h2 j (by omega))
      rw [el] at a1
      refine ⟨e1, ?_, a2⟩
      refine (rr_rtS _ (u.1, u.2.1, va_up u.2.2.1 1 e, u.2.2.2) hu hl hk hc ek (fun z => q (hi _ hm z)) o1 o2).trans (Eq.trans ?_ a1)
      show zf_ModuleTable_remove_b4 _ (u.1, u.2.1, va_up (va_up u.2.2.1 1 e) 1 (va_up (va_up u.2.2.1 1 e 1) _ _), u.2.2.2) _ _ _ = _
      rw [rr_upU, rr_upS]
      rfl
