/-! the relation without a module -/
theorem rr_rmZ {u : zz_S} {S : Nat} {x : Nat} (hu : u.1 15 = nI S) (hS : S ≤ 40) {p : Nat → Bool} (hp : ∀ j, j < S → ∃ (q : Nat) (ow : Option Nat) (a b c : Int32), u.2.2.1 0 j = some q ∧ q ∈ u.2.2.2.1.1 ∧ u.2.2.2.1.2 q = (7, [.int a, .int b, .int c, va_rf ow]) ∧ (p j = false ↔ ow = some x)) : zf_SymbolTable_removeOf u (some x) = some (va_up u.1 15 (nI (rr_cn p S)), u.2.1, va_up u.2.2.1 0 (rr_cp (u.2.2.1 0) p S), u.2.2.2) := by
  have h := rr_rmz hu hS hp S 0 (4999 - S) (by omega)
  rw [show 4999 - S + S + 1 = xx_fu by unfold xx_fu; omega, show rr_cn p 0 = 0 from rfl, nI_0, show rr_cp (u.2.2.1 0) p 0 = u.2.2.1 0 from rfl, rr_upI] at h
  exact h
theorem rr_rmT {u : zz_S} {φ : Nat → Nat} {ms : List Nat} {m : Nat} (hu : u.1 16 = nI ms.length) (hl : ms.length ≤ 12) (hE : ∀ k (h : k < ms.length), u.2.2.1 1 k = some (φ ms[k])) (hi : ∀ k ∈ ms, φ k = φ m → k = m) (ho : ∀ k ∈ ms, ∃ l, φ k ∈ u.2.2.2.1.1 ∧ u.2.2.2.1.2 (φ k) = (9, l)) : ∃ e1, zf_ModuleTable_remove u (some (φ m)) = some (va_up u.1 16 (nI (rr_wo ms m).length), u.2.1, va_up u.2.2.1 1 e1, u.2.2.2) ∧ ∀ j, j < (rr_wo ms m).length → e1 j = ((rr_wo ms m)[j]?).map φ := by
  obtain ⟨e1, a1, a2⟩ := rr_rmt hu hl hE hi ho ms.length 0 (4999 - ms.length) (u.2.2.1 1) (by omega) (fun _ _ => rfl) (fun j hj => absurd hj (Nat.not_lt_zero _))
  refine ⟨e1, ?_, a2⟩
  rw [show 4999 - ms.length + ms.length + 1 = xx_fu by unfold xx_fu; omega, List.take_zero, show (rr_wo [] m).length = 0 from rfl, nI_0, rr_upI] at a1
  exact a1
theorem rr_wom {ms : List Nat} {m k : Nat} : k ∈ rr_wo ms m ↔ k ∈ ms ∧ k ≠ m := by
  unfold rr_wo
  rw [List.mem_filter, decide_eq_true_iff]
theorem rr_dis {w : qm_S} {ms : List Nat} {r Z G : Nat → Nat} (hL : rr_L w ms r Z G) {a b : Nat} (ha : a ∈ ms) (hb : b ∈ ms) (h : a ≠ b) : r a + rr_rows (Z a) ≤ r b ∨ r b + rr_rows (Z b) ≤ r a := by
  obtain ⟨i, hi, rfl⟩ := List.getElem_of_mem ha
  obtain ⟨j, hj, rfl⟩ := List.getElem_of_mem hb
  by_cases c : i < j
  · exact Or.inl (rr_srt hL i j hi hj c)
  · by_cases e : i = j
    · subst e; exact absurd rfl h
    · exact Or.inr (rr_srt hL j i hj hi (by omega))
theorem rr_take {u : zz_S} {w : qm_S} {φ : Nat → Nat} {ms : List Nat} {S m : Nat} {r Z G : Nat → Nat} (hE : rr_E u w φ ms S r Z G) (hm : m ∈ ms) (hnn : ∀ k, k < 12 → w.2 12 (12 * k + m) ≠ 1) : ∃ (u1 : zz_S) (w1 : qm_S) (S1 : Nat), zf_Loader_takeOut u (some (φ m)) = some u1 ∧ qf_Model_remove w (nI m) = some w1 ∧ (∀ k, k ≠ 15 → k ≠ 16 → u1.1 k = u.1 k) ∧ (∀ k, k ≠ 1 → u1.2.1 k = u.2.1 k) ∧ (∀ k, k ≠ 3 → w1.1 k = w.1 k) ∧ (w1.2 1 = w.2 1 ∧ w1.2 13 = w.2 13 ∧ w1.2 14 = w.2 14) ∧ rr_E u1 w1 φ (rr_wo ms m) S1 r Z G := by
  obtain ⟨hG, hL, hN, hD, hB⟩ := hE
  obtain ⟨hS, hu15, hw3, hY⟩ := hB
  have hl := rr_len hL
  have hm12 := ((hL.1 m).mp hm).1
  obtain ⟨l1, l2, l3, l4, l5, l6, l7, l8, l9⟩ := hL.2.2.2 m hm
  obtain ⟨o1, nd, ns, o2, o3, o4, o5, o6, o7⟩ := hD.2.2.2.2 m hm
  obtain ⟨p, hp⟩ : ∃ p : Nat → Bool, ∀ j, p j = false ↔ w.2 5 j = nI m := ⟨fun j => !(decide (w.2 5 j = nI m)), fun j => by rw [Bool.not_eq_false', decide_eq_true_iff]⟩
  have hpt : ∀ j, p j = true → w.2 5 j ≠ nI m := fun j h z => by
    rw [(hp j).mpr z] at h
    cases h
  have e4 : 4 * (G m / 4) = G m := by omega
  have eg := rr_guard u (512 + 16 * r m) (G m / 4) 0 rr_nb0 (by omega) (by unfold rr_rows at l1; omega)
  rw [e4] at eg
  have ez := rr_rmZ (u := (u.1, va_up u.2.1 1 (rr_gf (u.2.1 1) (512 + 16 * r m) (G m) 0), u.2.2)) (S := S) (x := φ m) hu15 hS (p := p) (fun j hj => by
    obtain ⟨q, ow, y1, y2, y3, y4⟩ := hY j hj
    refine ⟨q, ow, _, _, _, y1, y2, y3, (hp j).trans ?_⟩
    rcases y4 with ⟨y4, y5⟩ | ⟨k, hk, y4, y5⟩
    · rw [y4, y5]
      exact ⟨fun z => absurd z (rr_m1I hm12), fun z => (by cases z)⟩
    · rw [y4, y5]
      have hk12 := ((hL.1 k).mp hk).1
      rw [nI_eq (by omega) (by omega)]
      exact ⟨fun z => by rw [z], fun z => hD.2.2.1 _ hk _ hm (Option.some.inj z)⟩)
  obtain ⟨e1, et, et2⟩ := rr_rmT (u := (va_up u.1 15 (nI (rr_cn p S)), va_up u.2.1 1 (rr_gf (u.2.1 1) (512 + 16 * r m) (G m) 0), va_up u.2.2.1 0 (rr_cp (u.2.2.1 0) p S), u.2.2.2)) (φ := φ) (ms := ms) (m := m) hD.1 hl hD.2.1 (fun k hk z => hD.2.2.1 _ hk _ hm z) (fun k hk => by
    obtain ⟨c1, nd, ns, c2, -⟩ := hD.2.2.2.2 k hk
    exact ⟨_, c1, c2⟩)
  refine ⟨(va_up (va_up u.1 15 (nI (rr_cn p S))) 16 (nI (rr_wo ms m).length), va_up u.2.1 1 (rr_gf (u.2.1 1) (512 + 16 * r m) (G m) 0), va_up (va_up u.2.2.1 0 (rr_cp (u.2.2.1 0) p S)) 1 e1, u.2.2.2), (va_up w.1 3 (nI (rr_cn p S)), va_up (rr_w4 (va_up w.2 6 (va_up (w.2 6) m 0)) (rr_cp (w.2 2) p S) (rr_cp (w.2 3) p S) (rr_cp (w.2 4) p S) (rr_cp (w.2 5) p S)) 12 (rr_cl (w.2 12) m 12)), rr_cn p S, ?_, rr_rem hm12 hw3 hS (fun j _ => hp j), ?_, ?_, ?_, ?_, ?_⟩
  · unfold zf_Loader_takeOut
    rw [rr_nnS, rr_pi o1 o2 rfl, Option.bind_some, rr_nnS, rr_pi o1 o2 rfl, Option.bind_some, l7, l9, eg, Option.bind_some, ez, Option.bind_some, et]
    rfl
  · intro k k1 k2
    show va_up (va_up u.1 15 _) 16 _ k = u.1 k
    rw [rr_upN _ _ k2, rr_upN _ _ k1]
  · intro k k1
    exact rr_upN _ _ k1
  · intro k k1
    exact rr_upN _ _ k1
  · exact ⟨rfl, rfl, rfl⟩
  · refine ⟨?_, ?_, ?_, ?_, ?_⟩
    · intro i hi
      obtain ⟨g1, g2⟩ := hG i hi
      show (rr_gf (u.2.1 1) (512 + 16 * r m) (G m) 0 i = 0 ∨ rr_gf (u.2.1 1) (512 + 16 * r m) (G m) 0 i = 1) ∧ (rr_gf (u.2.1 1) (512 + 16 * r m) (G m) 0 i = 1 ↔ (i < 128 ∧ u.1 0 = 1) ∨ ∃ k ∈ rr_wo ms m, 512 + 16 * r k ≤ 4 * i ∧ 4 * i < 512 + 16 * r k + G k)
      unfold rr_gf
      by_cases c : 512 + 16 * r m ≤ 4 * i ∧ 4 * i < 512 + 16 * r m + G m
      · rw [if_pos c]
        refine ⟨Or.inl rfl, fun z => absurd z (by decide), fun z => ?_⟩
        rcases z with z | ⟨k, hk, z1, z2⟩
        · omega
        · obtain ⟨hk1, hk2⟩ := rr_wom.mp hk
          obtain ⟨-, -, -, -, q5, -⟩ := hL.2.2.2 k hk1
          exfalso
          rcases rr_dis hL hm hk1 (fun z => hk2 z.symm) with z | z
          · unfold rr_rows at z; omega
          · unfold rr_rows at z; omega
      · rw [if_neg c]
        refine ⟨g1, g2.trans ?_⟩
        refine ⟨fun z => ?_, fun z => ?_⟩
        · rcases z with z | ⟨k, hk, z1⟩
          · exact Or.inl z
          · refine Or.inr ⟨k, rr_wom.mpr ⟨hk, fun z => c ?_⟩, z1⟩
            rw [← z]
            exact z1
        · rcases z with z | ⟨k, hk, z1⟩
          · exact Or.inl z
          · exact Or.inr ⟨k, (rr_wom.mp hk).1, z1⟩
    · refine ⟨fun k => ?_, fun k hk => ?_, List.Pairwise.filter _ hL.2.2.1, fun k hk => hL.2.2.2 k (rr_wom.mp hk).1⟩
      · show k ∈ rr_wo ms m ↔ k < 12 ∧ va_up (w.2 6) m 0 k = 1
        rw [rr_wom]
        by_cases c : k = m
        · rw [c, rr_upS]
          exact ⟨fun z => absurd rfl z.2, fun z => absurd z.2 (by decide)⟩
        · rw [rr_upN _ _ c, ← hL.1 k]
          exact ⟨fun z => z.1, fun z => ⟨z, c⟩⟩
      · show va_up (w.2 6) m 0 k = 0 ∨ va_up (w.2 6) m 0 k = 1
        by_cases c : k = m
        · rw [c, rr_upS]; exact Or.inl rfl
        · rw [rr_upN _ _ c]; exact hL.2.1 k hk
    · intro k hk j hj
      show (rr_cl (w.2 12) m 12 (12 * k + j) = 0 ∨ rr_cl (w.2 12) m 12 (12 * k + j) = 1) ∧ (rr_cl (w.2 12) m 12 (12 * k + j) = 1 → k ∈ rr_wo ms m ∧ j ∈ rr_wo ms m ∧ k ≠ j)
      unfold rr_cl
      by_cases c : k = m
      · rw [if_pos (by omega)]
        exact ⟨Or.inl rfl, fun z => absurd z (by decide)⟩
      · rw [if_neg (by omega)]
        refine ⟨(hN k hk j hj).1, fun z => ?_⟩
        obtain ⟨n1, n2, n3⟩ := (hN k hk j hj).2 z
        refine ⟨rr_wom.mpr ⟨n1, c⟩, rr_wom.mpr ⟨n2, fun e => ?_⟩, n3⟩
        rw [e] at z
        exact hnn k hk z
    · refine ⟨rfl, fun k hk => ?_, fun a ha b hb => hD.2.2.1 a (rr_wom.mp ha).1 b (rr_wom.mp hb).1, fun a ha b hb => hD.2.2.2.1 a (rr_wom.mp ha).1 b (rr_wom.mp hb).1, fun k hk => ?_⟩
      · show e1 k = some (φ (rr_wo ms m)[k])
        rw [et2 k hk, List.getElem?_eq_getElem hk]
        rfl
      · obtain ⟨hk1, hk2⟩ := rr_wom.mp hk
        obtain ⟨c1, nd, ns, c2, c3, c4, c5, c6, c7⟩ := hD.2.2.2.2 k hk1
        have hk12 := ((hL.1 k).mp hk1).1
        refine ⟨c1, nd, ns, ?_, c3, c4, c5, fun j => ?_, c7⟩
        · have ec : rr_cf (rr_cp (w.2 5) p S) (rr_cn p S) k = rr_cf (w.2 5) S k := rr_cfC (w.2 5) p k S (fun j hj hpj => by
            rw [(hp j).mp hpj]
            exact fun z => hk2 ((nI_eq (by omega) (by omega)).mp z).symm)
          refine c2.trans ?_
          show (9, [Value.int (w.2 7 k), .int (w.2 8 k), .int (w.2 9 k), .int (nI (rr_cf (w.2 5) S k)), .int (w.2 11 k), .int (w.2 10 k), .int (nI (r k)), .int (nI (r k + rr_rows (Z k))), .ref nd, .int (nI ns.length)]) = (9, [Value.int (w.2 7 k), .int (w.2 8 k), .int (w.2 9 k), .int (nI (rr_cf (rr_cp (w.2 5) p S) (rr_cn p S) k)), .int (w.2 11 k), .int (w.2 10 k), .int (nI (r k)), .int (nI (r k + rr_rows (Z k))), .ref nd, .int (nI ns.length)])
          rw [ec]
        · rw [c6]
          show _ ↔ j < 12 ∧ rr_cl (w.2 12) m 12 (12 * k + j) = 1
          refine and_congr_right (fun hj => ?_)
          unfold rr_cl
          rw [if_neg (by omega)]
    · refine ⟨Nat.le_trans (rr_cnl p S) hS, rfl, rfl, fun k hk => ?_⟩
      obtain ⟨j, hj, hpj, rfl⟩ := rr_cne p k S hk
      obtain ⟨q, ow, y1, y2, y3, y4⟩ := hY j hj
      refine ⟨q, ow, ?_, y2, ?_, ?_⟩
      · show rr_cp (u.2.2.1 0) p S (rr_cn p j) = some q
        rw [rr_cpj _ p j hpj S hj, y1]
      · refine y3.trans ?_
        show (7, [Value.int (w.2 2 j), .int (w.2 3 j), .int (w.2 4 j), va_rf ow]) = (7, [Value.int (rr_cp (w.2 2) p S (rr_cn p j)), .int (rr_cp (w.2 3) p S (rr_cn p j)), .int (rr_cp (w.2 4) p S (rr_cn p j)), va_rf ow])
        rw [rr_cpj _ p j hpj S hj, rr_cpj _ p j hpj S hj, rr_cpj _ p j hpj S hj]
      · show (rr_cp (w.2 5) p S (rr_cn p j) = -1 ∧ ow = none) ∨ ∃ k ∈ rr_wo ms m, rr_cp (w.2 5) p S (rr_cn p j) = nI k ∧ ow = some (φ k)
        rw [rr_cpj _ p j hpj S hj]
        rcases y4 with y4 | ⟨k, hk1, y4, y5⟩
        · exact Or.inl y4
        · refine Or.inr ⟨k, rr_wom.mpr ⟨hk1, fun e => ?_⟩, y4, y5⟩
          rw [e] at y4
          exact hpt j hpj y4
/-- the rest of the relation -/
def rr_R0 (u : zz_S) (w : qm_S) : Prop := rr_M u w ∧ rr_R u w ∧ rr_F u w ∧ rr_T u w ∧ rr_S u w
theorem rr_R0E {u : zz_S} {w : qm_S} {φ : Nat → Nat} {ms : List Nat} {S : Nat} {r Z G : Nat → Nat} (h : rr_R0 u w) (hE : rr_E u w φ ms S r Z G) : rr_Rel u w := ⟨h.1, h.2.1, h.2.2.1, h.2.2.2.1, h.2.2.2.2, φ, ms, S, r, Z, G, hE⟩
theorem rr_R0t {u u1 : zz_S} {w w1 : qm_S} (h : rr_R0 u w) (z : ∀ k, k ≠ 15 → k ≠ 16 → u1.1 k = u.1 k) (zm : ∀ k, k ≠ 1 → u1.2.1 k = u.2.1 k) (q : ∀ k, k ≠ 3 → w1.1 k = w.1 k) (q1 : w1.2 1 = w.2 1 ∧ w1.2 13 = w.2 13 ∧ w1.2 14 = w.2 14) : rr_R0 u1 w1 := by
  obtain ⟨hM, hR, hF, hT, hS⟩ := h
  obtain ⟨a1, a13, a14⟩ := q1
  refine ⟨?_, ?_, ?_, ?_, ?_⟩
  · unfold rr_M
    rw [a1, zm 0 (by decide)]
    exact hM
  · unfold rr_R
    rw [a14, zm 2 (by decide)]
    exact hR
  · unfold rr_F
    rw [q 17 (by decide), q 18 (by decide), q 19 (by decide), q 20 (by decide), q 21 (by decide), z 17 (by decide) (by decide), z 18 (by decide) (by decide), z 19 (by decide) (by decide), z 20 (by decide) (by decide), z 21 (by decide) (by decide)]
    exact hF
  · unfold rr_T
    rw [z 4 (by decide) (by decide), q 15 (by decide), a13, zm 3 (by decide)]
    exact hT
  · unfold rr_S
    rw [q 2 (by decide), z 0 (by decide) (by decide)]
    exact hS
theorem rr_aft {u u1 u2 : zz_S} {w w1 : qm_S} {t : Nat} {b1 : Bool} (hT : rr_T u w) (hS : rr_S u w) {φ : Nat → Nat} {ms : List Nat} {S : Nat} {r Z G : Nat → Nat} (hE : rr_E u w φ ms S r Z G) (hr : rr_ran u u1 w w1 b1 t) (h2 : u2.2 = u1.2) (hk : ∀ k, k ≠ 17 → k ≠ 18 → k ≠ 19 → k ≠ 20 → k ≠ 21 → u2.1 k = u1.1 k) (y : Nat → Int32) (y2 : y 2 = w1.1 2) (y3 : y 3 = w1.1 3) (y15 : y 15 = w1.1 15) (hF : y 17 = u2.1 17 ∧ y 18 = u2.1 18 ∧ y 19 = u2.1 19 ∧ y 20 = u2.1 20 ∧ y 21 = u2.1 21) : rr_R0 u2 (y, w1.2) ∧ rr_E u2 (y, w1.2) φ ms S r Z G := by
  obtain ⟨fz, fq, hP, h0, -⟩ := hr
  have k0 : ∀ k, k ≠ 17 → k ≠ 18 → k ≠ 19 → k ≠ 20 → k ≠ 21 → k ≠ 1 → k ≠ 2 → k ≠ 3 → u2.1 k = u.1 k := fun k a1 a2 a3 a4 a5 a6 a7 a8 => (hk k a1 a2 a3 a4 a5).trans (fz.1 k a6 a7 a8)
  have q2 : w1.1 2 = w.1 2 := fq.1 2 (by decide) (by decide) (by decide) (by decide)
  have q3 : w1.1 3 = w.1 3 := fq.1 3 (by decide) (by decide) (by decide) (by decide)
  have q15 : w1.1 15 = w.1 15 := fq.1 15 (by decide) (by decide) (by decide) (by decide)
  have z0 := k0 0 (by decide) (by decide) (by decide) (by decide) (by decide) (by decide) (by decide) (by decide)
  have z4 := k0 4 (by decide) (by decide) (by decide) (by decide) (by decide) (by decide) (by decide) (by decide)
  have z15 := k0 15 (by decide) (by decide) (by decide) (by decide) (by decide) (by decide) (by decide) (by decide)
  have z16 := k0 16 (by decide) (by decide) (by decide) (by decide) (by decide) (by decide) (by decide) (by decide)
  refine ⟨⟨?_, ⟨fun k hk2 => ?_, ?_⟩, hF, ?_, ?_, by rw [z0]; exact hS.2⟩, rr_Et hE z0 z15 z16 (by rw [h2]; exact fz.2.1) (by rw [h2]; exact fz.2.2.2) (y3.trans q3) fq.2⟩
  · intro i hi
    rw [h2]
    exact hP.1 i hi
  · rw [h2]
    by_cases e : k = 0
    · subst e
      exact h0.trans hP.2.2.symm
    · exact hP.2.1 k (by omega) hk2
  · rw [h2]; exact hP.2.2
  · obtain ⟨n, n1, n2, n3, n4⟩ := hT
    refine ⟨n, n1, z4.trans n2, y15.trans (q15.trans n3), ?_⟩
    rw [h2, fz.2.2.1, show ((y, w1.2) : qm_S).2 13 = w.2 13 from fq.2 13 (by decide) (by decide)]
    exact n4
  · rw [z0]
    exact y2.trans (q2.trans hS.1)
