/-! a module's exports; its place in the table -/
def rr_bx (w : qm_S) (x1 x3 x4 : Int32) : Option qm_S := if (w.1 27) = (-1 : Int32) then (some w) else (xx_b2 (qf_Model_runs w (x3 + (w.1 27)) (0 : Int32) (0 : Int32) x4) fun v2 u1 => if v2 = 0 then (if (u1.1 19) ≤ 0 then (qf_Model_bring_b287 u1 x1 (9 : Int32)) else (qf_Model_bring_b287 u1 x1 (8 : Int32))) else (if (u1.1 21) = 0 then (qf_Model_bring_b310 u1 x1) else (xx_b2 (qf_Model_wrong u1 (10 : Int32) (-1 : Int32)) fun v4 u3 => qf_Model_bring_b310 u3 x1)))
def rr_xs (w : qm_S) (j : Nat) (x y z o : Int32) : qm_S := (va_up w.1 3 (nI (j + 1)), va_up (va_up (va_up (va_up w.2 2 (va_up (w.2 2) j x)) 3 (va_up (w.2 3) j y)) 4 (va_up (w.2 4) j z)) 5 (va_up (w.2 5) j o))
def rr_xa (w : qm_S) (W : Nat → Int32) (e B m S : Nat) : Nat → qm_S
  | 0 => w
  | i + 1 => rr_xs (rr_xa w W e B m S i) (S + i) (W (e + 3 * i)) (W (e + 3 * i + 1)) (nI B + W (e + 3 * i + 2)) (nI m)
theorem rr_xak {w : qm_S} {W : Nat → Int32} {e B m S : Nat} (hw : w.1 3 = nI S) (hm : m < 12) : ∀ i, (∀ k, k ≠ 3 → (rr_xa w W e B m S i).1 k = w.1 k) ∧ (rr_xa w W e B m S i).1 3 = nI (S + i) ∧ (∀ k, k ≠ 2 → k ≠ 3 → k ≠ 4 → k ≠ 5 → (rr_xa w W e B m S i).2 k = w.2 k) ∧ ∀ t, t < 12 → rr_cf ((rr_xa w W e B m S i).2 5) (S + i) t = rr_cf (w.2 5) S t + if t = m then i else 0 := by
  intro i
  induction i with
  | zero =>
    refine ⟨fun _ _ => rfl, hw, fun _ _ _ _ _ => rfl, fun t _ => ?_⟩
    by_cases e : t = m
    · rw [if_pos e]; rfl
    · rw [if_neg e]; rfl
  | succ i ih =>
    obtain ⟨i1, i2, i3, i4⟩ := ih
    refine ⟨fun k hk => (rr_upN _ _ hk).trans (i1 k hk), rfl, fun k h2 h3 h4 h5 => ?_, fun t ht => ?_⟩
    · rw [← i3 k h2 h3 h4 h5]
      show va_up (va_up (va_up (va_up _ 2 _) 3 _) 4 _) 5 _ k = _
      rw [rr_upN _ _ h5, rr_upN _ _ h4, rr_upN _ _ h3, rr_upN _ _ h2]
    · show rr_cf (va_up ((rr_xa w W e B m S i).2 5) (S + i) (nI m)) (S + i + 1) t = _
      rw [rr_cfS ((rr_xa w W e B m S i).2 5) _ (S + i) t (fun k hk => rr_upN _ _ (by omega)), rr_upS, i4 t ht]
      by_cases e : t = m
      · rw [if_pos e, if_pos (by rw [e]), if_pos e]; omega
      · rw [if_neg e, if_neg (fun z => e ((nI_eq (by omega) (by omega)).mp z).symm), if_neg e]
theorem rr_xq {w : qm_S} {W T : Nat → Int32} {S N σ a b c m B : Nat} (hb : rr_fb σ a b c) (hN : N ≤ 1200) (hn : N = 4 * (8 + σ + 2 * a + 3 * b + 4 * c)) (hS : S + b ≤ 40) (hm : m < 12) (hw : w.1 3 = nI S) (hq : rr_hq w σ a b c) (ht : rr_tw T (w.2 13) N) (hT : ∀ i, 8 + σ ≤ i → T i = W i) (x4 : Int32) : ∀ (d i n : Nat), i + d = b → qf_Model_bring_b189 (n + d + 1) (rr_xa w W (8 + σ + 2 * a) B m S i) (nI m) (nI B) x4 (nI i) = rr_bx (rr_xa w W (8 + σ + 2 * a) B m S b) (nI m) (nI B) x4 := by
  obtain ⟨b1, b2, b3, b4, b5⟩ := hb
  intro d
  induction d with
  | zero =>
    intro i n h
    have ei : i = b := by omega
    subst ei
    obtain ⟨k1, k2, k3, k4⟩ := rr_xak (W := W) (e := 8 + σ + 2 * a) (B := B) hw hm i
    rw [qf_Model_bring_b189, if_pos (by rw [k1 24 (by decide), hq.2.2.1]; exact nI_le (Nat.le_refl _) (by omega))]
    rfl
  | succ d ih =>
    intro i n h
    obtain ⟨k1, k2, k3, k4⟩ := rr_xak (W := W) (e := 8 + σ + 2 * a) (B := B) hw hm i
    have hq2 : rr_hq (rr_xa w W (8 + σ + 2 * a) B m S i) σ a b c := ⟨(k1 26 (by decide)).trans hq.1, (k1 23 (by decide)).trans hq.2.1, (k1 24 (by decide)).trans hq.2.2.1, (k1 25 (by decide)).trans hq.2.2.2⟩
    have ht2 : rr_tw T ((rr_xa w W (8 + σ + 2 * a) B m S i).2 13) N := by rw [k3 13 (by decide) (by decide) (by decide) (by decide)]; exact ht
    rw [qf_Model_bring_b189, if_neg (by rw [hq2.2.2.1]; exact nI_ge (by omega) (by omega)), rr_exA hq2, rr_b2s, rr_tq ht2 hN (by omega), rr_b2s, rr_exA hq2, rr_b2s, show (4 : Int32) = nI (4 * 1) from rfl, rr_p4, rr_tq ht2 hN (by omega), rr_b2s, rr_exA hq2, rr_b2s, show (8 : Int32) = nI (4 * 2) from rfl, rr_p4, rr_tq ht2 hN (by omega), rr_b2s, hT _ (by omega), hT _ (by omega), hT _ (by omega), rr_addQ _ _ _ _ _ (show S + i < 40 by omega) k2, Option.bind_some, rr_nm, nI_1]
    exact ih (i + 1) n (by omega)
def rr_po (φ : Nat → Nat) (ms : List Nat) (E : Nat) (u u1 : zz_S) (w1 : qm_S) : Prop := rr_grow u u1 ∧ (∀ k, k ≠ 15 → u1.1 k = u.1 k) ∧ u1.1 15 = nI E ∧ u1.2.1 = u.2.1 ∧ (∀ k, k ≠ 0 → u1.2.2.1 k = u.2.2.1 k) ∧ u1.2.2.2.2 = u.2.2.2.2 ∧ ∀ k, k < E → rr_Y u1 w1 φ ms k
theorem rr_growT {u v x : zz_S} (h : rr_grow u v) (g : rr_grow v x) : rr_grow u x := ⟨fun a ha => ⟨(g.1 a (h.1 a ha).1).1, ((g.1 a (h.1 a ha).1).2).trans (h.1 a ha).2⟩, fun b hb => ⟨(g.2 b (h.2 b hb).1).1, ((g.2 b (h.2 b hb).1).2).trans (h.2 b hb).2⟩⟩
theorem rr_xz {w : qm_S} {W : Nat → Int32} {φ : Nat → Nat} {ms : List Nat} {S σ a b c m q B : Nat} (hb : rr_fb σ a b c) (hS : S + b ≤ 40) (hw : w.1 3 = nI S) (hm : m ∈ ms) (hm12 : m < 12) (hφ : φ m = q) (Po : Option Value → zz_S → Prop) (Px : String → zz_S → Prop) : ∀ (d i n : Nat) (u : zz_S), i + d = b → u.1 15 = nI (S + i) → rr_hz u σ a b c → u.2.1 3 = W → (∀ k, k < S + i → rr_Y u (rr_xa w W (8 + σ + 2 * a) B m S i) φ ms k) → (∀ u1, rr_po φ ms (S + b) u u1 (rr_xa w W (8 + σ + 2 * a) B m S b) → ∃ u2, zf_ModuleTable_insert u1 (some q) = some u2 ∧ Po (some (va_rf (some q))) u2) → zp_Loader_enter_b87 Po Px (n + d + 1) i u (nI B) q (nI i) := by
  have hb0 := hb
  obtain ⟨b1, b2, b3, b4, b5⟩ := hb
  intro d
  induction d with
  | zero =>
    intro i n u h hu hz hW hY hR
    have ei : i = b := by omega
    subst ei
    rw [zp_Loader_enter_b87]
    refine ⟨by omega, fun _ => ?_, fun h => absurd ?_ h⟩
    · obtain ⟨u2, g1, g2⟩ := hR u ⟨⟨fun _ h => ⟨h, rfl⟩, fun _ h => ⟨h, rfl⟩⟩, fun _ _ => rfl, hu, rfl, fun _ _ => rfl, rfl, hY⟩
      exact ⟨u2, g1, g2⟩
    · rw [hz.2.2.1]
      exact nI_le (Nat.le_refl _) (by omega)
  | succ d ih =>
    intro i n u h hu hz hW hY hR
    have hS1 : S + i < 40 := by omega
    rw [zp_Loader_enter_b87]
    refine ⟨by omega, fun h => absurd h (by rw [hz.2.2.1]; exact nI_ge (by omega) (by omega)), fun _ => ⟨by omega, ?_⟩⟩
    intro a2 ha2
    obtain ⟨x1, x2, x3⟩ := rr_zex (u := zz_more u a2 (7, [.int 0, .int 0, .int 0, .null])) (σ := σ) (a := a) (b := b) (c := c) hz (i := i) (by omega)
    obtain ⟨u1, z1, z2⟩ := rr_addZ u (W (8 + σ + 2 * a + 3 * i)) (W (8 + σ + 2 * a + 3 * i + 1)) (nI B + W (8 + σ + 2 * a + 3 * i + 2)) (some q) hS1 hu ha2
    rw [show (zz_more u a2 (7, [.int 0, .int 0, .int 0, .null])).2.1 3 = W from hW] at x1 x2 x3
    have hg := rr_growq u (va_up u.1 15 (nI (S + i + 1))) u.2.1 (va_up u.2.2.1 0 (va_up (u.2.2.1 0) (S + i) (some a2))) (7, [.int (W (8 + σ + 2 * a + 3 * i)), .int (W (8 + σ + 2 * a + 3 * i + 1)), .int (nI B + W (8 + σ + 2 * a + 3 * i + 2)), va_rf (some q)]) ha2
    refine ⟨_, _, x1, _, _, x2, _, _, x3, _, z1, _, z2, ?_⟩
    refine rr_wnn (nI_1 i) ?_
    refine ih (i + 1) n _ (by omega) rfl hz hW (fun k hk => ?_) (fun u3 hp => ?_)
    · by_cases ek : k = S + i
      · subst ek
        refine ⟨a2, some q, rr_upS _ _ _, List.mem_append_right _ (List.mem_singleton.mpr rfl), ?_, Or.inr ⟨m, hm, rr_upS _ _ _, by rw [hφ]⟩⟩
        show va_up u.2.2.2.1.2 a2 _ a2 = (7, [.int (va_up _ (S + i) _ (S + i)), .int (va_up _ (S + i) _ (S + i)), .int (va_up _ (S + i) _ (S + i)), _])
        rw [rr_upS, rr_upS, rr_upS, rr_upS]
      · exact rr_Yg (w1 := rr_xa w W (8 + σ + 2 * a) B m S (i + 1)) hg (rr_upN _ _ ek) (rr_upN _ _ ek) (rr_upN _ _ ek) (rr_upN _ _ ek) (rr_upN _ _ ek) (hY k (by omega))
    · obtain ⟨p1, p2, p3, p4, p5, p6, p7⟩ := hp
      exact hR u3 ⟨rr_growT hg p1, fun k hk => (p2 k hk).trans (rr_upN _ _ hk), p3, p4, fun k hk => (p5 k hk).trans (rr_upN _ _ hk), p6, p7⟩
/-- the place in the table: at the gap -/
def rr_ins (ms : List Nat) (k m : Nat) : List Nat := ms.take k ++ m :: ms.drop k
theorem rr_inm {ms : List Nat} {k m t : Nat} : t ∈ rr_ins ms k m ↔ t ∈ ms ∨ t = m := by
  unfold rr_ins
  rw [List.mem_append, List.mem_cons]
  have : t ∈ ms ↔ t ∈ ms.take k ∨ t ∈ ms.drop k := by
    rw [← List.mem_append, List.take_append_drop]
  rw [this]
  exact ⟨fun z => z.elim (fun y => Or.inl (Or.inl y)) (fun y => y.elim Or.inr (fun x => Or.inl (Or.inr x))), fun z => z.elim (fun y => y.elim Or.inl (fun x => Or.inr (Or.inr x))) (fun y => Or.inr (Or.inl y))⟩
theorem rr_inl {ms : List Nat} {k m : Nat} (h : k ≤ ms.length) : (rr_ins ms k m).length = ms.length + 1 := by
  unfold rr_ins
  rw [List.length_append, List.length_cons, List.length_take, List.length_drop]
  omega
theorem rr_inj {ms : List Nat} {k m j : Nat} (h : k ≤ ms.length) : (rr_ins ms k m)[j]? = if j < k then ms[j]? else if j = k then some m else ms[j - 1]? := by
  unfold rr_ins
  have hl : (ms.take k).length = k := by rw [List.length_take]; omega
  by_cases c : j < k
  · rw [if_pos c, List.getElem?_append_left (by omega), List.getElem?_take_of_lt c]
  · rw [if_neg c, List.getElem?_append_right (by omega), hl]
    by_cases e : j = k
    · rw [if_pos e, e, Nat.sub_self]; rfl
    · rw [if_neg e, show j - k = (j - 1 - k) + 1 by omega, List.getElem?_cons_succ, List.getElem?_drop, show k + (j - 1 - k) = j - 1 by omega]
theorem rr_insE (n : Nat) (W : zz_S) {L k q : Nat} {l : List Value} (hW : W.1 16 = nI L) (hL : L < 12) (hk : k ≤ L) (hq : q ∈ W.2.2.2.1.1) (hf : W.2.2.2.1.2 q = (9, l)) : zf_ModuleTable_insert_b66 W (some q) (nI k) = some (va_up W.1 16 (nI (L + 1)), W.2.1, va_up W.2.2.1 1 (va_up (W.2.2.1 1) k (some q)), W.2.2.2) := by
  rw [zf_ModuleTable_insert_b66, rr_nnS, rr_zas (n := 12) hq hf (by omega) (by decide), Option.bind_some, rr_nm, rr_nm, hW, nI_1]
theorem rr_insS (n : Nat) (W : zz_S) {k q p : Nat} {l l2 : List Value} {x y : Int32} (hk : k < 11) (he : W.2.2.1 1 k = some p) (hp : p ∈ W.2.2.2.1.1) (hf : W.2.2.2.1.2 p = (9, l)) (hx : l[1]? = some (.int x)) (hq : q ∈ W.2.2.2.1.1) (hfq : W.2.2.2.1.2 q = (9, l2)) (hy : l2[1]? = some (.int y)) : zf_ModuleTable_insert_b13 (n + 1) W (some q) (nI (k + 1)) = if x ≤ y then zf_ModuleTable_insert_b66 W (some q) (nI (k + 1)) else zf_ModuleTable_insert_b13 n (W.1, W.2.1, va_up W.2.2.1 1 (va_up (W.2.2.1 1) (k + 1) (some p)), W.2.2.2) (some q) (nI k) := by
  rw [zf_ModuleTable_insert_b13, if_neg (nI_nle (by omega) (by omega)), nI_pred, rr_ag (by omega) (by decide), Option.bind_some, he, rr_onS, Option.bind_some, rr_nnS, rr_pi hp hf hx, Option.bind_some, rr_nnS, rr_pi hq hfq hy, Option.bind_some, Option.bind_some, rr_nnS, rr_zas (n := 12) hp hf (by omega) (by decide), Option.bind_some, rr_nm, pk_m1]
theorem rr_insl {u : zz_S} {φ : Nat → Nat} {ms : List Nat} {r : Nat → Nat} {kk q B : Nat} {l : List Value} (hu : u.1 16 = nI ms.length) (hl : ms.length < 12) (hkk : kk ≤ ms.length) (hE : ∀ k (h : k < ms.length), u.2.2.1 1 k = some (φ ms[k])) (ho : ∀ k ∈ ms, ∃ l, φ k ∈ u.2.2.2.1.1 ∧ u.2.2.2.1.2 (φ k) = (9, l) ∧ l[1]? = some (.int (nI (512 + 16 * r k)))) (hr : ∀ k ∈ ms, r k ≤ 208) (hB : B ≤ 4096) (hq : q ∈ u.2.2.2.1.1) (hf : u.2.2.2.1.2 q = (9, l)) (hy : l[1]? = some (.int (nI B))) (hlo : ∀ k (h : k < ms.length), k < kk → 512 + 16 * r ms[k] ≤ B) (hhi : ∀ k (h : k < ms.length), kk ≤ k → B < 512 + 16 * r ms[k]) : ∀ (d k n : Nat) (e : Nat → Option Nat), k = kk + d → k ≤ ms.length → (∀ j, j < k → e j = (ms[j]?).map φ) → (∀ j, k < j → j ≤ ms.length → e j = (ms[j - 1]?).map φ) → ∃ e1, zf_ModuleTable_insert_b13 (n + d + 1) (u.1, u.2.1, va_up u.2.2.1 1 e, u.2.2.2) (some q) (nI k) = some (va_up u.1 16 (nI (ms.length + 1)), u.2.1, va_up u.2.2.1 1 e1, u.2.2.2) ∧ ∀ j, j < ms.length + 1 → e1 j = if j < kk then (ms[j]?).map φ else if j = kk then some q else (ms[j - 1]?).map φ := by
  intro d
  induction d with
  | zero =>
    intro k n e hk hkl h1 h2
    have ek : k = kk := by omega
    subst ek
    have fin : ∀ n, (k = 0 ∨ 0 < k) → zf_ModuleTable_insert_b13 (n + 1) (u.1, u.2.1, va_up u.2.2.1 1 e, u.2.2.2) (some q) (nI k) = zf_ModuleTable_insert_b66 (u.1, u.2.1, va_up u.2.2.1 1 e, u.2.2.2) (some q) (nI k) := fun n hc => by
      rcases hc with c | c
      · subst c
        rw [zf_ModuleTable_insert_b13, if_pos (by decide)]
      · obtain ⟨k0, rfl⟩ : ∃ k0, k = k0 + 1 := ⟨k - 1, by omega⟩
        have hk0 : k0 < ms.length := by omega
        obtain ⟨l2, o1, o2, o3⟩ := ho _ (List.getElem_mem hk0)
        have he : va_up u.2.2.1 1 e 1 k0 = some (φ ms[k0]) := by rw [rr_upS, h1 k0 (by omega), List.getElem?_eq_getElem hk0]; rfl
        rw [rr_insS n (u.1, u.2.1, va_up u.2.2.1 1 e, u.2.2.2) (by omega) he o1 o2 o3 hq hf hy, if_pos (nI_le (hlo k0 hk0 (by omega)) (by omega))]
    refine ⟨va_up e k (some q), ?_, fun j hj => ?_⟩
    · rw [fin _ (by omega), rr_insE n (u.1, u.2.1, va_up u.2.2.1 1 e, u.2.2.2) hu hl hkl hq hf]
      show some (va_up u.1 16 _, u.2.1, va_up (va_up u.2.2.1 1 e) 1 (va_up (va_up u.2.2.1 1 e 1) k (some q)), u.2.2.2) = _
      rw [rr_upU, rr_upS]
    · by_cases c : j < k
      · rw [if_pos c, rr_upN _ _ (by omega), h1 j c]
      · rw [if_neg c]
        by_cases c2 : j = k
        · rw [if_pos c2, c2, rr_upS]
        · rw [if_neg c2, rr_upN _ _ c2, h2 j (by omega) (by omega)]
  | succ d ih =>
    intro k n e hk hkl h1 h2
    obtain ⟨k0, rfl⟩ : ∃ k0, k = k0 + 1 := ⟨k - 1, by omega⟩
    have hk0 : k0 < ms.length := by omega
    obtain ⟨l2, o1, o2, o3⟩ := ho _ (List.getElem_mem hk0)
    have he : va_up u.2.2.1 1 e 1 k0 = some (φ ms[k0]) := by rw [rr_upS, h1 k0 (by omega), List.getElem?_eq_getElem hk0]; rfl
    have hrk := hr _ (List.getElem_mem hk0)
    rw [rr_insS _ (u.1, u.2.1, va_up u.2.2.1 1 e, u.2.2.2) (by omega) he o1 o2 o3 hq hf hy, if_neg (nI_ge (hhi k0 hk0 (by omega)) (by omega))]
    show ∃ e1, zf_ModuleTable_insert_b13 (n + (d + 1)) (u.1, u.2.1, va_up (va_up u.2.2.1 1 e) 1 (va_up (va_up u.2.2.1 1 e 1) (k0 + 1) (some (φ ms[k0]))), u.2.2.2) (some q) (nI k0) = _ ∧ _
    rw [rr_upU, rr_upS]
    refine ih k0 n (va_up e (k0 + 1) (some (φ ms[k0]))) (by omega) (by omega) (fun j hj => ?_) (fun j hj hj2 => ?_)
    · rw [rr_upN _ _ (by omega), h1 j (by omega)]
    · by_cases ej : j = k0 + 1
      · rw [ej, rr_upS, show k0 + 1 - 1 = k0 by omega, List.getElem?_eq_getElem hk0]; rfl
      · rw [rr_upN _ _ ej, h2 j (by omega) hj2]
theorem rr_insert {u : zz_S} {φ : Nat → Nat} {ms : List Nat} {r : Nat → Nat} {kk q B : Nat} {l : List Value} (hu : u.1 16 = nI ms.length) (hl : ms.length < 12) (hkk : kk ≤ ms.length) (hE : ∀ k (h : k < ms.length), u.2.2.1 1 k = some (φ ms[k])) (ho : ∀ k ∈ ms, ∃ l, φ k ∈ u.2.2.2.1.1 ∧ u.2.2.2.1.2 (φ k) = (9, l) ∧ l[1]? = some (.int (nI (512 + 16 * r k)))) (hr : ∀ k ∈ ms, r k ≤ 208) (hB : B ≤ 4096) (hq : q ∈ u.2.2.2.1.1) (hf : u.2.2.2.1.2 q = (9, l)) (hy : l[1]? = some (.int (nI B))) (hlo : ∀ k (h : k < ms.length), k < kk → 512 + 16 * r ms[k] ≤ B) (hhi : ∀ k (h : k < ms.length), kk ≤ k → B < 512 + 16 * r ms[k]) : ∃ e1, zf_ModuleTable_insert u (some q) = some (va_up u.1 16 (nI (ms.length + 1)), u.2.1, va_up u.2.2.1 1 e1, u.2.2.2) ∧ ∀ j, j < ms.length + 1 → e1 j = if j < kk then (ms[j]?).map φ else if j = kk then some q else (ms[j - 1]?).map φ := by
  obtain ⟨e1, a1, a2⟩ := rr_insl hu hl hkk hE ho hr hB hq hf hy hlo hhi (ms.length - kk) ms.length (4999 - (ms.length - kk)) (u.2.2.1 1) (by omega) (Nat.le_refl _) (fun j hj => by rw [hE j hj, List.getElem?_eq_getElem hj]; rfl) (fun j h1 h2 => absurd h1 (by omega))
  refine ⟨e1, ?_, a2⟩
  rw [show 4999 - (ms.length - kk) + (ms.length - kk) + 1 = xx_fu by unfold xx_fu; omega, rr_upI] at a1
  unfold zf_ModuleTable_insert zf_ModuleTable_isFull
  rw [hu, if_neg (fun z => by have := (nI_eq (b := 12) (by omega) (by decide)).mp z; omega), zf_ModuleTable_isFull_b14, rr_nb0, rr_b2s, if_pos rfl, rr_nm, hu]
  exact a1
