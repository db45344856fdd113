/-! the relation with a module more -/
theorem rr_gst2 {w : qm_S} {ms : List Nat} {r Z G : Nat → Nat} (hL : rr_L w ms r Z G) {kk : Nat} (hkk : kk ≤ ms.length) : (∀ a ∈ ms.take kk, r a + rr_rows (Z a) ≤ rr_en ms r Z kk) ∧ ∀ b ∈ ms.drop kk, rr_st ms r kk ≤ r b := by
  constructor
  · intro a ha
    obtain ⟨j, hj, rfl⟩ := List.getElem_of_mem ha
    rw [List.length_take] at hj
    rw [List.getElem_take]
    match kk, hkk, hj with
    | k + 1, hkk, hj =>
      rw [rr_enS (show k < ms.length by omega)]
      by_cases e : j = k
      · subst e; exact Nat.le_refl _
      · have := rr_srt hL j k (by omega) (by omega) (by omega)
        omega
  · intro b hb
    obtain ⟨j, hj, rfl⟩ := List.getElem_of_mem hb
    rw [List.length_drop] at hj
    rw [List.getElem_drop, rr_stL (show kk < ms.length by omega)]
    by_cases e : j = 0
    · subst e; exact Nat.le_refl _
    · have := rr_srt hL kk (kk + j) (by omega) (by omega) (by omega)
      omega
theorem rr_entE {u U : zz_S} {w V : qm_S} {φ : Nat → Nat} {ms ns : List Nat} {S m kk σ b γ q nd r0 B : Nat} {r Z G : Nat → Nat} {x e : Int32} (hE : rr_E u w φ ms S r Z G) (hm12 : m < 12) (hm : m ∉ ms) (hx : ∀ k ∈ ms, w.2 7 k ≠ x) (hkk : kk ≤ ms.length) (hr0 : r0 = rr_en ms r Z kk) (hB : B = 512 + 16 * r0) (hfit : rr_rows (4 * σ) ≤ rr_gp ms r Z kk) (hσ : 1 ≤ σ ∧ σ ≤ 128) (hγ : γ ≤ σ) (hS : S + b ≤ 40) (hq : q ∉ u.2.2.2.1.1)
    (u0 : U.1 0 = u.1 0) (u15 : U.1 15 = nI (S + b)) (u16 : U.1 16 = nI (ms.length + 1)) (ug : U.2.1 1 = rr_gf (u.2.1 1) B (4 * γ) 1) (ue : ∀ j, j < ms.length + 1 → U.2.2.1 1 j = ((rr_ins ms kk m)[j]?).map (va_up φ m q)) (ugr : rr_grow u U) (uq : q ∈ U.2.2.2.1.1 ∧ U.2.2.2.1.2 q = (9, rr_fl x B σ b r0 γ e nd ns.length)) (un : nd ∈ U.2.2.2.2.1 ∧ ∀ j (h : j < ns.length), U.2.2.2.2.2 nd j = some (φ ns[j])) (uY : ∀ k, k < S + b → rr_Y U V (va_up φ m q) (rr_ins ms kk m) k)
    (v3 : V.1 3 = nI (S + b)) (v6 : V.2 6 = va_up (w.2 6) m 1) (v7 : V.2 7 = va_up (w.2 7) m x) (v8 : V.2 8 = va_up (w.2 8) m (nI B)) (v9 : V.2 9 = va_up (w.2 9) m (nI (4 * σ))) (v10 : V.2 10 = va_up (w.2 10) m (nI (4 * γ))) (v11 : V.2 11 = va_up (w.2 11) m e) (v12 : ∀ k, k < 12 → V.2 12 (12 * m + k) = if k ∈ ns then 1 else 0) (v12' : ∀ i, i < 12 * m ∨ 12 * m + 12 ≤ i → V.2 12 i = w.2 12 i) (vc : ∀ t, t < 12 → rr_cf (V.2 5) (S + b) t = rr_cf (w.2 5) S t + if t = m then b else 0) (n1 : ns.Nodup) (n2 : ns.length ≤ 8) (n3 : ∀ k ∈ ns, k ∈ ms) :
    rr_E U V (va_up φ m q) (rr_ins ms kk m) (S + b) (va_up r m r0) (va_up Z m (4 * σ)) (va_up G m (4 * γ)) := by
  obtain ⟨hG, hL, hN, hD, hBs⟩ := hE
  have hne : ∀ {k}, k ∈ ms → k ≠ m := fun hk z => hm (z ▸ hk)
  obtain ⟨g1, g2⟩ := rr_ens hL hkk
  obtain ⟨t1, t2⟩ := rr_gst2 hL hkk
  have hfit2 : r0 + rr_rows (4 * σ) ≤ rr_st ms r kk := by unfold rr_gp at hfit; omega
  have hrw : 4 * σ ≤ 16 * rr_rows (4 * σ) := by unfold rr_rows; omega
  refine ⟨?_, ?_, ?_, ?_, ?_⟩
  · intro i hi
    obtain ⟨a1, a2⟩ := hG i hi
    rw [ug, u0]
    unfold rr_gf
    by_cases c : B ≤ 4 * i ∧ 4 * i < B + 4 * γ
    · rw [if_pos c]
      refine ⟨Or.inr rfl, fun _ => Or.inr ⟨m, rr_inm.mpr (Or.inr rfl), ?_, ?_⟩, fun _ => rfl⟩
      · rw [rr_upS]; omega
      · rw [rr_upS, rr_upS]; omega
    · rw [if_neg c]
      refine ⟨a1, a2.trans ⟨fun z => ?_, fun z => ?_⟩⟩
      · rcases z with z | ⟨k, hk, z⟩
        · exact Or.inl z
        · refine Or.inr ⟨k, rr_inm.mpr (Or.inl hk), ?_⟩
          rw [rr_upN _ _ (hne hk), rr_upN _ _ (hne hk)]
          exact z
      · rcases z with z | ⟨k, hk, z⟩
        · exact Or.inl z
        · rcases rr_inm.mp hk with hk | hk
          · rw [rr_upN _ _ (hne hk), rr_upN _ _ (hne hk)] at z
            exact Or.inr ⟨k, hk, z⟩
          · subst hk
            rw [rr_upS, rr_upS] at z
            exact absurd z (by omega)
  · refine ⟨fun k => ?_, fun k hk => ?_, ?_, fun k hk => ?_⟩
    · rw [rr_inm, v6]
      by_cases c : k = m
      · rw [c, rr_upS]
        exact ⟨fun _ => ⟨hm12, rfl⟩, fun _ => Or.inr rfl⟩
      · rw [rr_upN _ _ c, ← hL.1 k]
        exact ⟨fun z => z.resolve_right c, Or.inl⟩
    · rw [v6]
      by_cases c : k = m
      · rw [c, rr_upS]; exact Or.inr rfl
      · rw [rr_upN _ _ c]; exact hL.2.1 k hk
    · have hold : ms.Pairwise (fun a b => va_up r m r0 a + rr_rows (va_up Z m (4 * σ) a) ≤ va_up r m r0 b) := List.Pairwise.imp_of_mem (fun {a b} ha hb hab => by
        rw [rr_upN _ _ (hne ha), rr_upN _ _ (hne ha), rr_upN _ _ (hne hb)]
        exact hab) hL.2.2.1
      unfold rr_ins
      have hold2 := hold
      rw [← List.take_append_drop kk ms, List.pairwise_append] at hold2
      obtain ⟨p1, p2, p3⟩ := hold2
      rw [List.pairwise_append, List.pairwise_cons]
      refine ⟨p1, ⟨fun b hb => ?_, p2⟩, fun a ha b hb => ?_⟩
      · have hbm : b ∈ ms := List.mem_of_mem_drop hb
        rw [rr_upS, rr_upS, rr_upN _ _ (hne hbm)]
        have := t2 b hb
        omega
      · have ham : a ∈ ms := List.mem_of_mem_take ha
        rcases List.mem_cons.mp hb with hb | hb
        · rw [hb, rr_upS, rr_upN _ _ (hne ham), rr_upN _ _ (hne ham)]
          have := t1 a ha
          omega
        · exact p3 a ha b hb
    · rcases rr_inm.mp hk with hk | hk
      · rw [v8, v9, v10, rr_upN _ _ (hne hk), rr_upN _ _ (hne hk), rr_upN _ _ (hne hk), rr_upN _ _ (hne hk), rr_upN _ _ (hne hk), rr_upN _ _ (hne hk)]
        exact hL.2.2.2 k hk
      · subst hk
        rw [v8, v9, v10, rr_upS, rr_upS, rr_upS, rr_upS, rr_upS, rr_upS, hB]
        exact ⟨by omega, by omega, by omega, by omega, by omega, by omega, rfl, rfl, rfl⟩
  · intro k hk j hj
    by_cases c : k = m
    · subst c
      rw [v12 j hj]
      by_cases c2 : j ∈ ns
      · rw [if_pos c2]
        exact ⟨Or.inr rfl, fun _ => ⟨rr_inm.mpr (Or.inr rfl), rr_inm.mpr (Or.inl (n3 j c2)), fun z => hm (z ▸ n3 j c2)⟩⟩
      · rw [if_neg c2]
        exact ⟨Or.inl rfl, fun z => absurd z (by decide)⟩
    · rw [v12' _ (by omega)]
      refine ⟨(hN k hk j hj).1, fun z => ?_⟩
      obtain ⟨z1, z2, z3⟩ := (hN k hk j hj).2 z
      exact ⟨rr_inm.mpr (Or.inl z1), rr_inm.mpr (Or.inl z2), z3⟩
  · have hφ : ∀ k ∈ ms, φ k ≠ q := fun k hk z => hq (z ▸ (hD.2.2.2.2 k hk).1)
    refine ⟨by rw [u16, rr_inl hkk], fun k hk => ?_, fun a ha c hc => ?_, fun a ha c hc => ?_, fun k hk => ?_⟩
    · rw [ue k (by rw [rr_inl hkk] at hk; exact hk), List.getElem?_eq_getElem hk]
      rfl
    · rcases rr_inm.mp ha with ha | ha <;> rcases rr_inm.mp hc with hc | hc
      · rw [rr_upN _ _ (hne ha), rr_upN _ _ (hne hc)]
        exact hD.2.2.1 a ha c hc
      · rw [hc, rr_upS, rr_upN _ _ (hne ha)]
        exact fun z => absurd z (hφ a ha)
      · rw [ha, rr_upS, rr_upN _ _ (hne hc)]
        exact fun z => absurd z.symm (hφ c hc)
      · intro _
        rw [ha, hc]
    · rw [v7]
      rcases rr_inm.mp ha with ha | ha <;> rcases rr_inm.mp hc with hc | hc
      · rw [rr_upN _ _ (hne ha), rr_upN _ _ (hne hc)]
        exact hD.2.2.2.1 a ha c hc
      · rw [hc, rr_upS, rr_upN _ _ (hne ha)]
        exact fun z => absurd z (hx a ha)
      · rw [ha, rr_upS, rr_upN _ _ (hne hc)]
        exact fun z => absurd z.symm (hx c hc)
      · intro _
        rw [ha, hc]
    · rcases rr_inm.mp hk with hk | hk
      · have hk12 := ((hL.1 k).mp hk).1
        obtain ⟨c1, nd2, ns2, c2, c3, c4, c5, c6, c7⟩ := rr_Og ugr (hD.2.2.2.2 k hk)
        unfold rr_O
        rw [rr_upN _ _ (hne hk), rr_upN _ _ (hne hk), rr_upN _ _ (hne hk), v7, v8, v9, v10, v11, rr_upN _ _ (hne hk), rr_upN _ _ (hne hk), rr_upN _ _ (hne hk), rr_upN _ _ (hne hk), rr_upN _ _ (hne hk)]
        have ec : rr_cnt V (S + b) k = rr_cnt w S k := by
          have := vc k hk12
          rw [if_neg (hne hk)] at this
          exact this
        rw [ec]
        refine ⟨c1, nd2, ns2, c2, c3, c4, c5, fun j => ?_, fun j hj => ?_⟩
        · rw [c6]
          refine and_congr_right (fun hj => ?_)
          rw [v12' _ (by have := hne hk; omega)]
        · rw [c7 j hj]
          have hj2 := (c6 ns2[j]).mp (List.getElem_mem hj)
          have hj3 := ((hN k hk12 _ hj2.1).2 hj2.2).2.1
          rw [rr_upN _ _ (hne hj3)]
      · subst hk
        have ec : rr_cnt V (S + b) k = b := by
          have h1 := vc k hm12
          rw [if_pos rfl] at h1
          have h0 : rr_cf (w.2 5) S k = 0 := by
            unfold rr_cf
            rw [List.length_eq_zero_iff, List.filter_eq_nil_iff]
            intro j hj z
            have hjS := List.mem_range.mp hj
            obtain ⟨q2, ow, y1, y2, y3, y4⟩ := hBs.2.2.2 j hjS
            rw [decide_eq_true_iff] at z
            rcases y4 with ⟨y4, -⟩ | ⟨k2, hk2, y4, -⟩
            · exact absurd (y4.symm.trans z) (rr_m1I hm12)
            · have hk212 := ((hL.1 k2).mp hk2).1
              have := (nI_eq (by omega) (by omega)).mp (y4.symm.trans z)
              exact hm (this ▸ hk2)
          rw [h0, Nat.zero_add] at h1
          exact h1
        unfold rr_O
        rw [rr_upS, rr_upS, rr_upS, v7, v8, v9, v10, v11, rr_upS, rr_upS, rr_upS, rr_upS, rr_upS, ec]
        refine ⟨uq.1, nd, ns, uq.2, un.1, n1, n2, fun j => ?_, fun j hj => ?_⟩
        · constructor
          · intro hj
            have h12 := ((hL.1 j).mp (n3 j hj)).1
            exact ⟨h12, by rw [v12 j h12, if_pos hj]⟩
          · intro ⟨h12, z⟩
            rw [v12 j h12] at z
            by_cases c2 : j ∈ ns
            · exact c2
            · rw [if_neg c2] at z
              exact absurd z (by decide)
        · rw [un.2 j hj, rr_upN _ _ (hne (n3 _ (List.getElem_mem hj)))]
  · exact ⟨hS, u15, v3, uY⟩
