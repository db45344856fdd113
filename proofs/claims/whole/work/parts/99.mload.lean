/-! imports and exports against the symbols; the slot; the room -/
def rr_zb (u : zz_S) (f x : Int32) : zz_S := (va_up (va_up u.1 17 f) 18 x, u.2)
def rr_qb (w : qm_S) (f x : Int32) : qm_S := (va_up (va_up w.1 17 f) 18 x, w.2)
theorem rr_blame (u : zz_S) (f x : Int32) : zf_Report_blame u f x = some (rr_zb u f x) := rfl
theorem rr_wrong (w : qm_S) (f x : Int32) : qf_Model_wrong w f x = some (1, rr_qb w f x) := by
  unfold qf_Model_wrong
  rw [rr_nb1]
  rfl
theorem rr_iml {u : zz_S} {w : qm_S} {φ : Nat → Nat} {ms : List Nat} {S N σ a b c : Nat} (hB : rr_B u w φ ms S) (hb : rr_fb σ a b c) (hz : rr_hz u σ a b c) (hq : rr_hq w σ a b c) (ht : rr_tw (u.2.1 3) (w.2 13) N) (hN : N ≤ 1200) (hn : N = 4 * (8 + σ + 2 * a + 3 * b + 4 * c)) : ∀ (d i n : Nat), i + d = a → (∀ j, j < i → ∃ k, k < S ∧ w.2 2 k = u.2.1 3 (8 + σ + 2 * j)) → (zf_Loader_checkImports_b2 (n + d + 1) u (nI i) = some u ∧ qf_Model_importsWrong_b2 (n + d + 1) w (nI i) = some (0, w) ∧ ∀ j, j < a → ∃ k, k < S ∧ w.2 2 k = u.2.1 3 (8 + σ + 2 * j)) ∨ ∃ f x, ¬ f ≤ (0 : Int32) ∧ ¬ f = 0 ∧ zf_Loader_checkImports_b2 (n + d + 1) u (nI i) = some (rr_zb u f x) ∧ qf_Model_importsWrong_b2 (n + d + 1) w (nI i) = some (1, rr_qb w f x) := by
  obtain ⟨b1, b2, b3, b4, b5⟩ := hb
  intro d
  induction d with
  | zero =>
    intro i n e hf
    have e : i = a := by omega
    subst e
    refine Or.inl ⟨?_, ?_, hf⟩
    · rw [zf_Loader_checkImports_b2, if_pos (by rw [hz.2.1]; exact nI_le (Nat.le_refl _) (by omega))]
    · rw [qf_Model_importsWrong_b2, if_pos (by rw [hq.2.1]; exact nI_le (Nat.le_refl _) (by omega)), rr_nb0]
  | succ d ih =>
    intro i n e hf
    obtain ⟨x1, x2⟩ := rr_zin hz (i := i) (by omega)
    have hS := hB.1
    rw [zf_Loader_checkImports_b2, if_neg (by rw [hz.2.1]; exact nI_ge (by omega) (by omega)), x1, rr_b2s, qf_Model_importsWrong_b2, if_neg (by rw [hq.2.1]; exact nI_ge (by omega) (by omega)), rr_imA hq, rr_b2s, rr_tq ht hN (by omega), rr_b2s]
    rcases rr_find hB (u.2.1 3 (8 + σ + 2 * i)) with ⟨k, h1, h2, h3, h4⟩ | ⟨h1, h3, h4⟩
    · obtain ⟨q, ow, y1, y2, y3, y4⟩ := hB.2.2.2 k h1
      rw [h3, h4, rr_b2s, rr_b2s, y1, rr_onS, rr_pi y2 y3 rfl, Option.bind_some, x2, rr_b2s, if_pos (show (0 : Int32) ≤ nI k from nI_pos' (by omega)), rr_ag (by omega) (by decide), Option.bind_some, rr_imA hq, rr_b2s, show (4 : Int32) = nI (4 * 1) from rfl, rr_p4, rr_tq ht hN (by omega), rr_b2s]
      by_cases c1 : w.2 3 k = u.2.1 3 (8 + σ + 2 * i + 1)
      · rw [if_pos c1, if_pos c1, rr_nm, rr_nm, nI_1]
        refine ih (i + 1) n (by omega) (fun j hj => ?_)
        by_cases ej : j = i
        · rw [ej]; exact ⟨k, h1, h2⟩
        · exact hf j (by omega)
      · rw [if_neg c1, if_neg c1, rr_blame, Option.bind_some]
        rw [show (nI (4 * 1) : Int32) = 4 from rfl, rr_wrong, rr_b2s, rr_nb1]
        exact Or.inr ⟨4, nI i, by decide, by decide, rfl, rfl⟩
    · rw [h3, h4, rr_b2s, rr_b2s, rr_on0, rr_blame, Option.bind_some, if_neg (by decide), rr_wrong, rr_b2s, rr_nb1]
      exact Or.inr ⟨3, nI i, by decide, by decide, rfl, rfl⟩
theorem rr_im {u : zz_S} {w : qm_S} {φ : Nat → Nat} {ms : List Nat} {S N σ a b c : Nat} (hB : rr_B u w φ ms S) (hb : rr_fb σ a b c) (hz : rr_hz u σ a b c) (hq : rr_hq w σ a b c) (ht : rr_tw (u.2.1 3) (w.2 13) N) (hN : N ≤ 1200) (hn : N = 4 * (8 + σ + 2 * a + 3 * b + 4 * c)) : (zf_Loader_checkImports u = some u ∧ qf_Model_importsWrong w = some (0, w) ∧ ∀ j, j < a → ∃ k, k < S ∧ w.2 2 k = u.2.1 3 (8 + σ + 2 * j)) ∨ ∃ f x, ¬ f ≤ (0 : Int32) ∧ ¬ f = 0 ∧ zf_Loader_checkImports u = some (rr_zb u f x) ∧ qf_Model_importsWrong w = some (1, rr_qb w f x) := by
  have h := rr_iml hB hb hz hq ht hN hn a 0 (4999 - a) (by omega) (fun j hj => absurd hj (by omega))
  have ha := hb.2.2.1
  rw [show 4999 - a + a + 1 = xx_fu by unfold xx_fu; omega, nI_0] at h
  exact h
theorem rr_exl {u : zz_S} {w : qm_S} {φ : Nat → Nat} {ms : List Nat} {S N σ a b c : Nat} (hB : rr_B u w φ ms S) (hb : rr_fb σ a b c) (hz : rr_hz u σ a b c) (hq : rr_hq w σ a b c) (ht : rr_tw (u.2.1 3) (w.2 13) N) (hN : N ≤ 1200) (hn : N = 4 * (8 + σ + 2 * a + 3 * b + 4 * c)) : ∀ (d i n : Nat), i + d = b → (zf_Loader_checkExports_b2 (n + d + 1) u (nI i) = some u ∧ qf_Model_exportsWrong_b2 (n + d + 1) w (nI i) = some (0, w) ∧ S + b ≤ 40) ∨ ∃ f x, ¬ f ≤ (0 : Int32) ∧ ¬ f = 0 ∧ zf_Loader_checkExports_b2 (n + d + 1) u (nI i) = some (rr_zb u f x) ∧ qf_Model_exportsWrong_b2 (n + d + 1) w (nI i) = some (1, rr_qb w f x) := by
  obtain ⟨b1, b2, b3, b4, b5⟩ := hb
  have hS := hB.1
  intro d
  induction d with
  | zero =>
    intro i n e
    have e : i = b := by omega
    subst e
    have hun : zf_SymbolTable_unused u = some (nI (40 - S), u) := by
      unfold zf_SymbolTable_unused
      rw [hB.2.1, show (40 : Int32) = nI 40 from rfl, pk_sub hS]
    by_cases c1 : S + i ≤ 40
    · refine Or.inl ⟨?_, ?_, c1⟩
      · rw [zf_Loader_checkExports_b2, if_pos (by rw [hz.2.2.1]; exact nI_le (Nat.le_refl _) (by omega)), hun, rr_b2s, hz.2.2.1, if_pos (nI_le (by omega) (by omega))]; rfl
      · rw [qf_Model_exportsWrong_b2, if_pos (by rw [hq.2.2.1]; exact nI_le (Nat.le_refl _) (by omega)), hB.2.2.1, hq.2.2.1, nI_add, if_pos (show nI (S + i) ≤ (40 : Int32) from nI_le (b := 40) c1 (by decide)), qf_Model_exportsWrong_b72, qf_Model_exportsWrong_b73, rr_nb0]
    · refine Or.inr ⟨5, nI (40 - S), by decide, by decide, ?_, ?_⟩
      · rw [zf_Loader_checkExports_b2, if_pos (by rw [hz.2.2.1]; exact nI_le (Nat.le_refl _) (by omega)), hun, rr_b2s, hz.2.2.1, if_neg (nI_ge (by omega) (by omega)), hun, rr_b2s]; rfl
      · rw [qf_Model_exportsWrong_b2, if_pos (by rw [hq.2.2.1]; exact nI_le (Nat.le_refl _) (by omega)), hB.2.2.1, hq.2.2.1, nI_add, show (40 : Int32) - nI S = nI (40 - S) from pk_sub (a := 40) hS, if_neg (show ¬ nI (S + i) ≤ (40 : Int32) from nI_ge (a := 40) (by omega) (by omega)), rr_wrong, rr_b2s, if_neg (by decide), qf_Model_exportsWrong_b73, rr_nb1]
  | succ d ih =>
    intro i n e
    obtain ⟨x1, x2, x3⟩ := rr_zex hz (i := i) (by omega)
    rw [zf_Loader_checkExports_b2, if_neg (by rw [hz.2.2.1]; exact nI_ge (by omega) (by omega)), x1, rr_b2s, qf_Model_exportsWrong_b2, if_neg (by rw [hq.2.2.1]; exact nI_ge (by omega) (by omega)), rr_exA hq, rr_b2s, rr_tq ht hN (by omega), rr_b2s]
    rcases rr_find hB (u.2.1 3 (8 + σ + 2 * a + 3 * i)) with ⟨k, h1, h2, h3, h4⟩ | ⟨h1, h3, h4⟩
    · obtain ⟨q, ow, y1, y2, y3, y4⟩ := hB.2.2.2 k h1
      rw [h3, h4, rr_b2s, rr_b2s, y1, rr_onS, rr_blame, Option.bind_some, if_neg (nI_pos (by omega)), rr_wrong, rr_b2s, rr_nb1]
      exact Or.inr ⟨5, nI i, by decide, by decide, rfl, rfl⟩
    · rw [h3, h4, rr_b2s, rr_b2s, rr_on0, rr_nm, if_pos (by decide), rr_nm, nI_1]
      exact ih (i + 1) n (by omega)
theorem rr_ex {u : zz_S} {w : qm_S} {φ : Nat → Nat} {ms : List Nat} {S N σ a b c : Nat} (hB : rr_B u w φ ms S) (hb : rr_fb σ a b c) (hz : rr_hz u σ a b c) (hq : rr_hq w σ a b c) (ht : rr_tw (u.2.1 3) (w.2 13) N) (hN : N ≤ 1200) (hn : N = 4 * (8 + σ + 2 * a + 3 * b + 4 * c)) : (zf_Loader_checkExports u = some u ∧ qf_Model_exportsWrong w = some (0, w) ∧ S + b ≤ 40) ∨ ∃ f x, ¬ f ≤ (0 : Int32) ∧ ¬ f = 0 ∧ zf_Loader_checkExports u = some (rr_zb u f x) ∧ qf_Model_exportsWrong w = some (1, rr_qb w f x) := by
  have h := rr_exl hB hb hz hq ht hN hn b 0 (4999 - b) (by omega)
  have ha := hb.2.2.2.1
  rw [show 4999 - b + b + 1 = xx_fu by unfold xx_fu; omega, nI_0] at h
  exact h
/-- the first slot -/
theorem rr_slot {w : qm_S} {ms : List Nat} {r Z G : Nat → Nat} (hL : rr_L w ms r Z G) (x1 x2 x3 : Int32) : ∀ (d k n : Nat), k + d = 12 → (∀ j, j < k → j ∈ ms) → ∃ m, m ≤ 12 ∧ m ∉ ms ∧ (∀ j, j < m → j ∈ ms) ∧ qf_Model_load_b58 (n + d + 1) w x1 x2 x3 (nI k) = qf_Model_load_b81 w x1 x2 x3 (nI m) := by
  intro d
  induction d with
  | zero =>
    intro k n h hk
    have e : k = 12 := by omega
    subst e
    refine ⟨12, Nat.le_refl _, fun z => absurd ((hL.1 12).mp z).1 (by omega), hk, ?_⟩
    rw [qf_Model_load_b58, if_pos (show (12 : Int32) ≤ nI 12 from nI_le (a := 12) (Nat.le_refl _) (by decide))]
  | succ d ih =>
    intro k n h hk
    rw [qf_Model_load_b58, if_neg (show ¬ (12 : Int32) ≤ nI k from nI_ge (b := 12) (by omega) (by decide)), rr_ag (by omega) (by decide), Option.bind_some]
    rcases hL.2.1 k (by omega) with q | q
    · refine ⟨k, by omega, fun z => by have := ((hL.1 k).mp z).2; rw [q] at this; exact absurd this (by decide), hk, ?_⟩
      rw [q, if_pos rfl]
    · rw [q, if_neg (by decide), rr_nm, nI_1]
      refine ih (k + 1) n (by omega) (fun j hj => ?_)
      by_cases e : j = k
      · rw [e]; exact (hL.1 k).mpr ⟨by omega, q⟩
      · exact hk j (by omega)
theorem rr_full {w : qm_S} {ms : List Nat} {r Z G : Nat → Nat} (hL : rr_L w ms r Z G) {m : Nat} (h1 : m ≤ 12) (h2 : m ∉ ms) (h3 : ∀ j, j < m → j ∈ ms) : ms.length = 12 ↔ m = 12 := by
  constructor
  · intro h
    by_cases c : m = 12
    · exact c
    · exfalso
      have hs : ms ⊆ (List.range 12).filter (fun k => decide (k ≠ m)) := fun k hk => by
        rw [List.mem_filter, List.mem_range, decide_eq_true_iff]
        exact ⟨((hL.1 k).mp hk).1, fun z => h2 (z ▸ hk)⟩
      have e := List.Nodup.length_le_of_subset (rr_nodup hL) hs
      have e2 := List.Nodup.length_le_of_subset (l₁ := m :: (List.range 12).filter (fun k => decide (k ≠ m))) (l₂ := List.range 12) (by
        rw [List.nodup_cons]
        refine ⟨fun z => ?_, List.Pairwise.filter _ List.nodup_range⟩
        rw [List.mem_filter, decide_eq_true_iff] at z
        exact z.2 rfl) (fun k hk => by
        rcases List.mem_cons.mp hk with z | z
        · rw [z]; exact List.mem_range.mpr (by omega)
        · exact (List.mem_filter.mp z).1)
      rw [List.length_cons, List.length_range] at e2
      omega
  · intro h
    have e := List.Nodup.length_le_of_subset (l₁ := List.range 12) (l₂ := ms) List.nodup_range (fun k hk => h3 k (by have := List.mem_range.mp hk; omega))
    rw [List.length_range] at e
    have := rr_len hL
    omega
theorem rr_sub1 (a b : Int32) : (a - b) + 1 = (a + 1) - b := by rw [Int32.sub_eq_add_neg, Int32.sub_eq_add_neg, Int32.add_assoc, Int32.add_comm (-b) 1, ← Int32.add_assoc]
/-- the room: the reference's rows, the class's gaps -/
theorem rr_rooF {w : qm_S} {ms : List Nat} {r Z G : Nat → Nat} (hL : rr_L w ms r Z G) {q i0 e : Nat} (hq : 0 < q) (hq2 : q < 4096) (he : e ≤ 208) (hf : ∀ i, i0 ≤ i → i < e → rr_fre ms r Z i = true) : ∀ (d i n t : Nat), i + d = e → i = i0 + t → t < q → (i0 + q ≤ e → qf_Model_room_b4 (n + d + 1) w (nI q) (nI t) (nI i) = some (nI (512 + 16 * i0), w)) ∧ (e < i0 + q → qf_Model_room_b4 (n + d + 1) w (nI q) (nI t) (nI i) = qf_Model_room_b4 (n + 1) w (nI q) (nI (e - i0)) (nI e)) := by
  intro d
  induction d with
  | zero =>
    intro i n t h1 h2 h3
    have ei : i = e := by omega
    refine ⟨fun z => absurd h3 (by omega), fun z => ?_⟩
    rw [ei, show e - i0 = t by omega]
  | succ d ih =>
    intro i n t h1 h2 h3
    have hi : i < 208 := by omega
    have st : qf_Model_room_b4 (n + (d + 1) + 1) w (nI q) (nI t) (nI i) = if t + 1 = q then some (nI (512 + 16 * i0), w) else qf_Model_room_b4 (n + d + 1) w (nI q) (nI (t + 1)) (nI (i + 1)) := by
      rw [qf_Model_room_b4, if_neg (show ¬ (208 : Int32) ≤ nI i from nI_ge (b := 208) hi (by decide)), rr_row hL (by omega), rr_b2s, hf i (by omega) (by omega), if_neg (by decide), nI_1, qf_Model_room_b26]
      by_cases c : t + 1 = q
      · rw [if_pos (by rw [c]), if_pos c, rr_sub1, nI_1, pk_sub (by omega), show i + 1 - q = i0 by omega, show (16 : Int32) * nI i0 = nI (16 * i0) from pk_mul 16 i0, show (512 : Int32) + nI (16 * i0) = nI (512 + 16 * i0) from nI_add 512 _]
      · rw [if_neg (fun z => c ((nI_eq (by omega) (by omega)).mp z)), if_neg c, rr_nm, nI_1]
        rfl
    rw [st]
    by_cases c : t + 1 = q
    · rw [if_pos c]
      exact ⟨fun _ => rfl, fun z => absurd c (by omega)⟩
    · rw [if_neg c]
      exact ih (i + 1) n (t + 1) (by omega) (by omega) (by omega)
theorem rr_rooO {w : qm_S} {ms : List Nat} {r Z G : Nat → Nat} (hL : rr_L w ms r Z G) {q e : Nat} (hq : 0 < q) (hq2 : q < 4096) (he : e ≤ 208) : ∀ (d i n t : Nat), i + d + 1 = e → (∀ j, i ≤ j → j < e → rr_fre ms r Z j = false) → qf_Model_room_b4 (n + (d + 1) + 1) w (nI q) (nI t) (nI i) = qf_Model_room_b4 (n + 1) w (nI q) 0 (nI e) := by
  have st : ∀ i n t, i < 208 → rr_fre ms r Z i = false → qf_Model_room_b4 (n + 1) w (nI q) (nI t) (nI i) = qf_Model_room_b4 n w (nI q) 0 (nI (i + 1)) := fun i n t hi hf => by
    rw [qf_Model_room_b4, if_neg (show ¬ (208 : Int32) ≤ nI i from nI_ge (b := 208) hi (by decide)), rr_row hL (by omega), rr_b2s, hf, if_pos rr_bif, qf_Model_room_b26, if_neg (fun z => by have := (nI_eq (a := 0) (by decide) (by omega)).mp z; omega), rr_nm, nI_1]
  intro d
  induction d with
  | zero =>
    intro i n t h hf
    rw [st i _ t (by omega) (hf i (Nat.le_refl _) (by omega)), show i + 1 = e by omega]
  | succ d ih =>
    intro i n t h hf
    rw [st i _ t (by omega) (hf i (Nat.le_refl _) (by omega)), ← nI_0]
    exact ih (i + 1) n 0 (by omega) (fun j h1 h2 => hf j (by omega) h2)
/-- the first gap that holds q rows -/
def rr_fit (g : Nat → Nat) (q : Nat) : Nat → Nat → Option Nat
  | _, 0 => none
  | k, d + 1 => if q ≤ g k then some k else rr_fit g q (k + 1) d
theorem rr_rooQ {w : qm_S} {ms : List Nat} {r Z G : Nat → Nat} (hL : rr_L w ms r Z G) {q : Nat} (hq : 0 < q) (hq2 : q < 4096) : ∀ (d k n : Nat), k + d = ms.length → qf_Model_room_b4 (n + (208 - rr_en ms r Z k) + 1) w (nI q) 0 (nI (rr_en ms r Z k)) = some (((rr_fit (rr_gp ms r Z) q k (d + 1)).map (fun j => nI (512 + 16 * rr_en ms r Z j))).getD (-1), w) := by
  intro d
  induction d with
  | zero =>
    intro k n h
    have ek : k = ms.length := by omega
    obtain ⟨e1, e2⟩ := rr_ens hL (show k ≤ ms.length by omega)
    have e3 : rr_st ms r k = 208 := by rw [ek, rr_stE]
    obtain ⟨f1, f2⟩ := rr_rooF hL (q := q) (i0 := rr_en ms r Z k) (e := 208) hq hq2 (Nat.le_refl _) (fun i h1 h2 => rr_freG hL (show k ≤ ms.length by omega) h1 (by omega)) (208 - rr_en ms r Z k) (rr_en ms r Z k) n 0 (by omega) (by omega) hq
    rw [nI_0] at f1 f2
    rw [rr_fit]
    have eg : rr_gp ms r Z k = 208 - rr_en ms r Z k := by rw [rr_gp, e3]
    by_cases c : q ≤ rr_gp ms r Z k
    · rw [if_pos c, f1 (by omega)]
      rfl
    · rw [if_neg c, f2 (by omega), qf_Model_room_b4, if_pos (show (208 : Int32) ≤ nI 208 from nI_le (a := 208) (Nat.le_refl _) (by decide)), rr_fit]
      rfl
  | succ d ih =>
    intro k n h
    have hk : k < ms.length := by omega
    obtain ⟨e1, e2⟩ := rr_ens hL (show k ≤ ms.length by omega)
    obtain ⟨e3, e4⟩ := rr_ens hL (show k + 1 ≤ ms.length by omega)
    have e5 : rr_st ms r k + rr_rows (Z ms[k]) = rr_en ms r Z (k + 1) := by rw [rr_stL hk, rr_enS hk]
    have e6 := (rr_row1 hL (List.getElem_mem hk)).1
    obtain ⟨f1, f2⟩ := rr_rooF hL (q := q) (i0 := rr_en ms r Z k) (e := rr_st ms r k) hq hq2 e2 (fun i h1 h2 => rr_freG hL (show k ≤ ms.length by omega) h1 h2) (rr_st ms r k - rr_en ms r Z k) (rr_en ms r Z k) (n + (208 - rr_st ms r k)) 0 (by omega) (by omega) hq
    rw [nI_0, show n + (208 - rr_st ms r k) + (rr_st ms r k - rr_en ms r Z k) + 1 = n + (208 - rr_en ms r Z k) + 1 by omega] at f1 f2
    rw [rr_fit]
    by_cases c : q ≤ rr_gp ms r Z k
    · rw [if_pos c, f1 (by unfold rr_gp at c; omega)]
      rfl
    · rw [if_neg c, f2 (by unfold rr_gp at c; omega)]
      have o := rr_rooO hL (q := q) (e := rr_en ms r Z (k + 1)) hq hq2 (by omega) (rr_rows (Z ms[k]) - 1) (rr_st ms r k) (n + (208 - rr_en ms r Z (k + 1))) (rr_st ms r k - rr_en ms r Z k) (by omega) (fun j h1 h2 => rr_freO hL hk h1 h2)
      rw [show n + (208 - rr_en ms r Z (k + 1)) + (rr_rows (Z ms[k]) - 1 + 1) + 1 = n + (208 - rr_st ms r k) + 1 by omega] at o
      rw [o]
      exact ih (k + 1) n (by omega)
theorem rr_room {w : qm_S} {ms : List Nat} {r Z G : Nat → Nat} (hL : rr_L w ms r Z G) {q : Nat} (hq : 0 < q) (hq2 : q < 4096) : qf_Model_room w (nI q) = some (((rr_fit (rr_gp ms r Z) q 0 (ms.length + 1)).map (fun j => nI (512 + 16 * rr_en ms r Z j))).getD (-1), w) := by
  have h := rr_rooQ hL hq hq2 ms.length 0 4791 (by omega)
  rw [show rr_en ms r Z 0 = 0 from rfl, nI_0, show 4791 + (208 - 0) + 1 = xx_fu from rfl] at h
  exact h
theorem rr_fitZ {u : zz_S} {w : qm_S} {φ : Nat → Nat} {ms : List Nat} {S : Nat} {r Z G : Nat → Nat} (hL : rr_L w ms r Z G) (hD : rr_D u w φ ms S r Z) {z : Nat} (hz : z ≤ 512) : ∀ (d k n : Nat), k + d = ms.length + 1 → zf_ModuleTable_firstFit_b2 (n + d + 1) u (nI z) (rr_xk k) = some (((rr_fit (rr_gp ms r Z) (rr_rows z) k d).map (fun j => nI (512 + 16 * rr_en ms r Z j))).getD (-1), u) := by
  have hl := rr_len hL
  intro d
  induction d with
  | zero =>
    intro k n h
    have e : k = ms.length + 1 := by omega
    subst e
    rw [zf_ModuleTable_firstFit_b2, if_pos (rr_xke hD.1 hl), rr_fit]
    rfl
  | succ d ih =>
    intro k n h
    obtain ⟨e1, e2⟩ := rr_ens hL (show k ≤ ms.length by omega)
    have er : zf_ModuleTable_rowsFor u (nI z) = some (nI (rr_rows z), u) := by
      rw [zf_ModuleTable_rowsFor, show (nI z + (16 : Int32)) - (1 : Int32) = nI (z + 15) from by rw [show nI z + (16 : Int32) = nI (z + 15 + 1) from nI_add z 16, nI_pred], show (16 : Int32) = nI 16 from rfl, pk_div (by omega) (by decide) (by decide)]
      rfl
    rw [zf_ModuleTable_firstFit_b2, if_neg (rr_xkc hD.1 hl (by omega)), rr_grw hL hD hl k (by omega), rr_b2s, er, rr_b2s, rr_fit]
    have eb : rr_gp ms r Z k ≤ 208 := by unfold rr_gp; omega
    have eb2 : rr_rows z ≤ 33 := by unfold rr_rows; omega
    by_cases c : rr_rows z ≤ rr_gp ms r Z k
    · rw [if_neg (nI_nlt c (by omega)), if_pos c, rr_gst hD hl k (by omega), rr_b2s, show (16 : Int32) * nI (rr_en ms r Z k) = nI (16 * rr_en ms r Z k) from pk_mul 16 _, show (512 : Int32) + nI (16 * rr_en ms r Z k) = nI (512 + 16 * rr_en ms r Z k) from nI_add 512 _]
      rfl
    · rw [if_pos (nI_lt (by omega) (by omega)), if_neg c, rr_nm, show rr_xk k + 1 = rr_xk (k + 1) from (rr_xk1 k).trans (rr_xkS k).symm]
      exact ih (k + 1) n (by omega)
theorem rr_fitF {u : zz_S} {w : qm_S} {φ : Nat → Nat} {ms : List Nat} {S : Nat} {r Z G : Nat → Nat} (hL : rr_L w ms r Z G) (hD : rr_D u w φ ms S r Z) {z : Nat} (hz : z ≤ 512) : zf_ModuleTable_firstFit u (nI z) = some (((rr_fit (rr_gp ms r Z) (rr_rows z) 0 (ms.length + 1)).map (fun j => nI (512 + 16 * rr_en ms r Z j))).getD (-1), u) := by
  have hl := rr_len hL
  have h := rr_fitZ hL hD hz (ms.length + 1) 0 (4998 - ms.length) (by omega)
  rw [show 4998 - ms.length + (ms.length + 1) + 1 = xx_fu by unfold xx_fu; omega, rr_xk0] at h
  exact h
theorem rr_fitE {g : Nat → Nat} {q : Nat} : ∀ (d k : Nat), (rr_fit g q k d = none) ∨ ∃ j, rr_fit g q k d = some j ∧ k ≤ j ∧ j < k + d ∧ q ≤ g j := by
  intro d
  induction d with
  | zero => intro k; exact Or.inl rfl
  | succ d ih =>
    intro k
    rw [rr_fit]
    by_cases c : q ≤ g k
    · rw [if_pos c]
      exact Or.inr ⟨k, rfl, Nat.le_refl _, by omega, c⟩
    · rw [if_neg c]
      rcases ih (k + 1) with h | ⟨j, h1, h2, h3, h4⟩
      · exact Or.inl h
      · exact Or.inr ⟨j, h1, by omega, by omega, h4⟩
