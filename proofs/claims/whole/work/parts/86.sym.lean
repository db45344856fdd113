/-! symbols on both sides -/
theorem rr_okp {u : zz_S} {q ci : Nat} {l : List Value} (hq : q ∈ u.2.2.2.1.1) (hf : u.2.2.2.1.2 q = (ci, l)) : zz_ok u q ci = some () := by
  unfold zz_ok
  rw [if_pos ⟨hq, by rw [hf]⟩]
theorem rr_pi {u : zz_S} {q ci k : Nat} {l : List Value} {a : Int32} (hq : q ∈ u.2.2.2.1.1) (hf : u.2.2.2.1.2 q = (ci, l)) (hl : l[k]? = some (.int a)) : zz_pi u q ci k = some a := by
  unfold zz_pi
  rw [rr_okp hq hf, Option.bind_some, hf, hl]
theorem rr_pq {u : zz_S} {q ci k : Nat} {l : List Value} {a : Option Nat} (hq : q ∈ u.2.2.2.1.1) (hf : u.2.2.2.1.2 q = (ci, l)) (hl : l[k]? = some (va_rf a)) : zz_pq u q ci k = some a := by
  unfold zz_pq
  rw [rr_okp hq hf, Option.bind_some, hf, hl]
  cases a <;> rfl
theorem rr_pr {u : zz_S} {q ci k : Nat} {l : List Value} {a : Nat} (hq : q ∈ u.2.2.2.1.1) (hf : u.2.2.2.1.2 q = (ci, l)) (hl : l[k]? = some (.ref a)) : zz_pr u q ci k = some a := by
  unfold zz_pr
  rw [rr_okp hq hf, Option.bind_some, hf, hl]
theorem rr_pw {u : zz_S} {q ci k : Nat} {l : List Value} {v : Value} (hq : q ∈ u.2.2.2.1.1) (hf : u.2.2.2.1.2 q = (ci, l)) (hl : k < l.length) : zz_pw u q ci k v = some (u.1, u.2.1, u.2.2.1, (u.2.2.2.1.1, va_up u.2.2.2.1.2 q (ci, l.set k v)), u.2.2.2.2) := by
  unfold zz_pw
  rw [rr_okp hq hf, Option.bind_some, hf, if_pos hl]
theorem rr_zas {u : zz_S} {q ci n i k : Nat} {l : List Value} (hq : q ∈ u.2.2.2.1.1) (hf : u.2.2.2.1.2 q = (ci, l)) (hi : i < n) (hn : n < 2 ^ 31) : zz_as u k n ci (nI i) q = some (u.1, u.2.1, va_up u.2.2.1 k (va_up (u.2.2.1 k) i (some q)), u.2.2.2) := by
  unfold zz_as
  rw [rr_okp hq hf, Option.bind_some, rr_as hi hn, Option.bind_some]
theorem rr_findl {u : zz_S} {w : qm_S} {φ : Nat → Nat} {ms : List Nat} {S : Nat} (hB : rr_B u w φ ms S) (x : Int32) : ∀ (d k n : Nat), k + d = S → (∃ j, j < S ∧ w.2 2 j = x ∧ zf_SymbolTable_find_b2 (n + d + 1) u x (nI k) = some (u.2.2.1 0 j, u) ∧ qf_Model_find_b2 (n + d + 1) w x (nI k) = some (nI j, w)) ∨ ((∀ j, k ≤ j → j < S → w.2 2 j ≠ x) ∧ zf_SymbolTable_find_b2 (n + d + 1) u x (nI k) = some (none, u) ∧ qf_Model_find_b2 (n + d + 1) w x (nI k) = some (-1, w)) := by
  obtain ⟨hS, hu, hw, hY⟩ := hB
  intro d
  induction d with
  | zero =>
    intro k n h
    have e : k = S := by omega
    subst e
    refine Or.inr ⟨fun j h1 h2 => absurd h2 (by omega), ?_, ?_⟩
    · rw [zf_SymbolTable_find_b2, if_pos (by rw [hu]; exact nI_le (Nat.le_refl _) (by omega))]
    · have c : w.1 3 ≤ nI k := by rw [hw]; exact nI_le (Nat.le_refl _) (by omega)
      rw [qf_Model_find_b2, if_pos c, qf_Model_find_b26, if_pos c, qf_Model_find_b39]
  | succ d ih =>
    intro k n h
    obtain ⟨q, ow, y1, y2, y3, y4⟩ := hY k (by omega)
    have c1 : ¬ u.1 15 ≤ nI k := by rw [hu]; exact nI_ge (by omega) (by omega)
    have c2 : ¬ w.1 3 ≤ nI k := by rw [hw]; exact nI_ge (by omega) (by omega)
    have e1 : zf_SymbolTable_find_b2 (n + (d + 1) + 1) u x (nI k) = if w.2 2 k = x then some (u.2.2.1 0 k, u) else zf_SymbolTable_find_b2 (n + d + 1) u x (nI (k + 1)) := by
      rw [zf_SymbolTable_find_b2, if_neg c1, rr_ag (by omega) (by decide), Option.bind_some, y1]
      simp only [xx_on, Option.bind_some, xx_nn]
      rw [rr_pi y2 y3 rfl, Option.bind_some, zf_SymbolTable_find_b39]
      simp only [xx_nm]
      rw [nI_1]
      rfl
    have e2 : qf_Model_find_b2 (n + (d + 1) + 1) w x (nI k) = if w.2 2 k = x then some (nI k, w) else qf_Model_find_b2 (n + d + 1) w x (nI (k + 1)) := by
      rw [qf_Model_find_b2, if_neg c2, rr_ag (by omega) (by decide), Option.bind_some]
      simp only [xx_nm, qf_Model_find_b26, c2, if_false, qf_Model_find_b39]
      rw [nI_1]
      rfl
    rw [e1, e2]
    by_cases hx : w.2 2 k = x
    · rw [if_pos hx, if_pos hx]
      exact Or.inl ⟨k, by omega, hx, rfl, rfl⟩
    · rw [if_neg hx, if_neg hx]
      rcases ih (k + 1) n (by omega) with ⟨j, h1, h2, h3, h4⟩ | ⟨h1, h3, h4⟩
      · exact Or.inl ⟨j, h1, h2, h3, h4⟩
      · refine Or.inr ⟨fun j a b => ?_, h3, h4⟩
        by_cases e : j = k
        · subst e; exact hx
        · exact h1 j (by omega) b
theorem rr_find {u : zz_S} {w : qm_S} {φ : Nat → Nat} {ms : List Nat} {S : Nat} (hB : rr_B u w φ ms S) (x : Int32) : (∃ j, j < S ∧ w.2 2 j = x ∧ zf_SymbolTable_find u x = some (u.2.2.1 0 j, u) ∧ qf_Model_find w x = some (nI j, w)) ∨ ((∀ j, j < S → w.2 2 j ≠ x) ∧ zf_SymbolTable_find u x = some (none, u) ∧ qf_Model_find w x = some (-1, w)) := by
  have hS := hB.1
  have h := rr_findl hB x S 0 (4999 - S) (by omega)
  rw [show 4999 - S + S + 1 = xx_fu by unfold xx_fu; omega] at h
  rcases h with h | ⟨h1, h2, h3⟩
  · exact Or.inl h
  · exact Or.inr ⟨fun j hj => h1 j (by omega) hj, h2, h3⟩
theorem rs_lookup : ll_s_lookup rr_Rel := by
  intro u w x v hR
  have h' := rr_thrown 0 hR
  obtain ⟨hM, hRg, hF, hT, hS, φ, ms, S, r, Z, G, hG, hL, hN, hD, hB⟩ := hR
  have hB' : rr_B u (va_up w.1 0 0, w.2) φ ms S := hB
  unfold zf_Loader_lookup qf_Model_lookup
  simp only [xx_nm]
  rcases rr_find hB' x with ⟨j, h1, h2, h3, h4⟩ | ⟨h1, h3, h4⟩
  · obtain ⟨q, ow, y1, y2, y3, y4⟩ := hB.2.2.2 j h1
    have hS40 := hB.1
    rw [h3, h4, y1]
    simp only [xx_b2, xx_on]
    rw [if_pos (show (0 : Int32) ≤ nI j from nI_pos' (by omega))]
    by_cases c0 : v = 0
    · refine ⟨w.2 4 j, u, (va_up w.1 0 0, w.2), ?_, ?_, h'⟩
      · rw [if_pos c0, rr_pi y2 y3 rfl]; rfl
      · rw [if_pos c0, rr_ag (by omega) (by decide)]; rfl
    by_cases c1 : v = 1
    · refine ⟨w.2 3 j, u, (va_up w.1 0 0, w.2), ?_, ?_, h'⟩
      · rw [if_neg c0, if_pos c1, rr_pi y2 y3 rfl]; rfl
      · rw [if_neg c0, if_pos c1, rr_ag (by omega) (by decide)]; rfl
    by_cases c2 : v = 2
    · rcases y4 with ⟨y4, rfl⟩ | ⟨m, hm, y4, rfl⟩
      · refine ⟨0, u, (va_up w.1 0 0, w.2), ?_, ?_, h'⟩
        · rw [if_neg c0, if_neg c1, if_pos c2, rr_pq (a := none) y2 y3 rfl]; rfl
        · rw [if_neg c0, if_neg c1, if_pos c2, rr_ag (by omega) (by decide), Option.bind_some, show (va_up w.1 0 0, w.2).2 5 j = -1 from y4, if_neg (by decide)]; rfl
      · have hm12 := ((hL.1 m).mp hm).1
        obtain ⟨o1, nd, ns, o2, -⟩ := hD.2.2.2.2 m hm
        refine ⟨w.2 7 m, u, (va_up w.1 0 0, w.2), ?_, ?_, h'⟩
        · rw [if_neg c0, if_neg c1, if_pos c2, rr_pq (a := some (φ m)) y2 y3 rfl]
          simp only [Option.bind_some, xx_nn]
          rw [rr_pi o1 o2 rfl]; rfl
        · rw [if_neg c0, if_neg c1, if_pos c2, rr_ag (by omega) (by decide), Option.bind_some, show (va_up w.1 0 0, w.2).2 5 j = nI m from y4, if_pos (show (0 : Int32) ≤ nI m from nI_pos' (by omega)), Option.bind_some, rr_ag hm12 (by decide)]; rfl
    · refine ⟨-1, u, (va_up w.1 0 0, w.2), ?_, ?_, h'⟩
      · rw [if_neg c0, if_neg c1, if_neg c2]
      · rw [if_neg c0, if_neg c1, if_neg c2]; rfl
  · rw [h3, h4]
    refine ⟨-1, u, (va_up w.1 0 0, w.2), rfl, ?_, h'⟩
    simp only [xx_b2]
    rw [if_neg (by decide)]
/-- objects that stay when others come -/
def rr_grow (u u1 : zz_S) : Prop := (∀ a, a ∈ u.2.2.2.1.1 → a ∈ u1.2.2.2.1.1 ∧ u1.2.2.2.1.2 a = u.2.2.2.1.2 a) ∧ ∀ b, b ∈ u.2.2.2.2.1 → b ∈ u1.2.2.2.2.1 ∧ u1.2.2.2.2.2 b = u.2.2.2.2.2 b
theorem rr_Og {u u1 : zz_S} {w : qm_S} {φ : Nat → Nat} {S m : Nat} {r Z : Nat → Nat} (hg : rr_grow u u1) (h : rr_O u w φ S r Z m) : rr_O u1 w φ S r Z m := by
  obtain ⟨h1, nd, ns, h2, h3, h4, h5, h6, h7⟩ := h
  exact ⟨(hg.1 _ h1).1, nd, ns, (hg.1 _ h1).2.trans h2, (hg.2 _ h3).1, h4, h5, h6, fun j hj => by rw [(hg.2 _ h3).2]; exact h7 j hj⟩
theorem rr_cntS (w w1 : qm_S) (S m : Nat) (h : ∀ k, k < S → w1.2 5 k = w.2 5 k) : rr_cnt w1 (S + 1) m = rr_cnt w S m + if w1.2 5 S = nI m then 1 else 0 := by
  unfold rr_cnt
  rw [List.range_succ, List.filter_append, List.length_append]
  congr 1
  · congr 1
    refine List.filter_congr (fun k hk => ?_)
    rw [h k (List.mem_range.mp hk)]
  · by_cases c : w1.2 5 S = nI m
    · simp [c]
    · simp [c]
theorem rr_addQ (w : qm_S) (a b c d : Int32) {S : Nat} (hS : S < 40) (hw : w.1 3 = nI S) : qf_Model_addSymbol w a b c d = some (va_up w.1 3 (nI (S + 1)), va_up (va_up (va_up (va_up w.2 2 (va_up (w.2 2) S a)) 3 (va_up (w.2 3) S b)) 4 (va_up (w.2 4) S c)) 5 (va_up (w.2 5) S d)) := by
  unfold qf_Model_addSymbol
  rw [hw, rr_as hS (by decide), Option.bind_some]
  simp only [xx_nm, hw]
  rw [rr_as hS (by decide), Option.bind_some, rr_as hS (by decide), Option.bind_some, rr_as hS (by decide), Option.bind_some, nI_1]
  rfl
theorem rr_addZ (u : zz_S) (a b c : Int32) (ow : Option Nat) {S q : Nat} (hS : S < 40) (hu : u.1 15 = nI S) (hq : q ∉ u.2.2.2.1.1) : ∃ u1, zf_Symbol_init (zz_more u q (7, [.int 0, .int 0, .int 0, .null])) q a b c ow = some u1 ∧ zf_SymbolTable_add u1 (some q) = some (va_up u.1 15 (nI (S + 1)), u.2.1, va_up u.2.2.1 0 (va_up (u.2.2.1 0) S (some q)), (u.2.2.2.1.1 ++ [q], va_up u.2.2.2.1.2 q (7, [.int a, .int b, .int c, va_rf ow])), u.2.2.2.2) := by
  refine ⟨(u.1, u.2.1, u.2.2.1, (u.2.2.2.1.1 ++ [q], va_up u.2.2.2.1.2 q (7, [.int a, .int b, .int c, va_rf ow])), u.2.2.2.2), ?_, ?_⟩
  · unfold zf_Symbol_init zz_more
    rw [rr_pw (l := [.int 0, .int 0, .int 0, .null]) (by simp) (rr_upS _ _ _) (by decide), Option.bind_some]
    simp only [rr_upU]
    rw [rr_pw (l := [.int a, .int 0, .int 0, .null]) (by simp) (rr_upS _ _ _) (by simp), Option.bind_some]
    simp only [rr_upU]
    rw [rr_pw (l := [.int a, .int b, .int 0, .null]) (by simp) (rr_upS _ _ _) (by simp), Option.bind_some]
    simp only [rr_upU]
    rw [rr_pw (l := [.int a, .int b, .int c, .null]) (by simp) (rr_upS _ _ _) (by simp), Option.bind_some]
    simp only [rr_upU]
    rfl
  · unfold zf_SymbolTable_add
    simp only [hu, xx_nn]
    rw [if_neg (show ¬ (40 : Int32) ≤ nI S from nI_ge (b := 40) hS (by decide)), rr_zas (l := [.int a, .int b, .int c, va_rf ow]) (by simp) (rr_upS _ _ _) hS (by decide), Option.bind_some]
    simp only [xx_nm, hu]
    rw [nI_1]
    rfl
