/-! what of the relation goes over where tables, objects and numbers of them stay -/
theorem rr_Et {u u1 : zz_S} {w w1 : qm_S} {φ : Nat → Nat} {ms : List Nat} {S : Nat} {r Z G : Nat → Nat} (h : rr_E u w φ ms S r Z G) (h0 : u1.1 0 = u.1 0) (h15 : u1.1 15 = u.1 15) (h16 : u1.1 16 = u.1 16) (hg : u1.2.1 1 = u.2.1 1) (h2 : u1.2.2 = u.2.2) (h3 : w1.1 3 = w.1 3) (hw : ∀ k, k ≠ 1 → k ≠ 14 → w1.2 k = w.2 k) : rr_E u1 w1 φ ms S r Z G := by
  obtain ⟨a1, a2, a3, a4, a5⟩ := h
  have w2 := hw 2 (by decide) (by decide)
  have w3 := hw 3 (by decide) (by decide)
  have w4 := hw 4 (by decide) (by decide)
  have w5 := hw 5 (by decide) (by decide)
  have w6 := hw 6 (by decide) (by decide)
  have w7 := hw 7 (by decide) (by decide)
  have w8 := hw 8 (by decide) (by decide)
  have w9 := hw 9 (by decide) (by decide)
  have w10 := hw 10 (by decide) (by decide)
  have w11 := hw 11 (by decide) (by decide)
  have w12 := hw 12 (by decide) (by decide)
  refine ⟨rr_Gz a1 h0 hg, rr_Lq a2 w6 w8 w9 w10, ?_, ?_, ?_⟩
  · unfold rr_N
    rw [w12]
    exact a3
  · refine ⟨h16.trans a4.1, fun k hk => by rw [h2]; exact a4.2.1 k hk, a4.2.2.1, by rw [w7]; exact a4.2.2.2.1, fun m hm => ?_⟩
    obtain ⟨o1, nd, ns, o2, o3, o4, o5, o6, o7⟩ := a4.2.2.2.2 m hm
    refine ⟨by rw [h2]; exact o1, nd, ns, ?_, by rw [h2]; exact o3, o4, o5, by rw [w12]; exact o6, fun j hj => by rw [h2]; exact o7 j hj⟩
    unfold rr_cnt at o2 ⊢
    rw [h2, w5, w7, w8, w9, w10, w11]
    exact o2
  · refine ⟨a5.1, h15.trans a5.2.1, h3.trans a5.2.2.1, fun k hk => ?_⟩
    obtain ⟨q, ow, y1, y2, y3, y4⟩ := a5.2.2.2 k hk
    exact ⟨q, ow, by rw [h2]; exact y1, by rw [h2]; exact y2, by rw [h2, w2, w3, w4]; exact y3, by rw [w5]; exact y4⟩
