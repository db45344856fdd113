/-! the class's writeImage and enter against the reference's bring -/
theorem rr_xcq {P : (Option Value → zz_S → Prop) → Prop} {f : Option Nat → zz_S → Prop} (h : P (fun rv u1 => ∃ r, rv = some (va_rf r) ∧ f r u1)) : xw_cq P f := h
theorem rr_nr0 {w : qm_S} {m : Nat} (h : ∀ k, k < 12 → w.2 12 (12 * m + k) = 0) : rr_nrf w m [] = w.2 12 := by
  funext i
  unfold rr_nrf
  by_cases c : 12 * m ≤ i ∧ i < 12 * m + 12
  · rw [if_pos c, if_neg (by simp)]
    have := h (i - 12 * m) (by omega)
    rw [show 12 * m + (i - 12 * m) = i by omega] at this
    exact this.symm
  · rw [if_neg c]
theorem rr_bri {u : zz_S} {w : qm_S} {φ : Nat → Nat} {ms : List Nat} {S N σ a b c γ m kk r0 B : Nat} {r Z G : Nat → Nat} {x : Int32} (hM : rr_M u w) (hE : rr_E u w φ ms S r Z G) (hff : rr_ff u w (u.2.1 3) N σ a b c γ) (hN : N ≤ 1200) (ht : rr_tw (u.2.1 3) (w.2 13) N) (hf : ∀ j, j < a → ∃ k, k < S ∧ w.2 2 k = u.2.1 3 (8 + σ + 2 * j)) (hS : S + b ≤ 40) (hm12 : m < 12) (hm : m ∉ ms) (hlen : ms.length < 12) (hx : ∀ k ∈ ms, w.2 7 k ≠ x) (hkk : kk ≤ ms.length) (hr0 : r0 = rr_en ms r Z kk) (hB : B = 512 + 16 * r0) (hfit : rr_rows (4 * σ) ≤ rr_gp ms r Z kk) (hr : ∀ j, j < c → rr_rB (u.2.1 3 (8 + σ + 2 * a + 3 * b + 4 * j)) (rr_dv (u.2.1 3) (rr_sa w) σ (8 + σ + 2 * a + 3 * b) B j) = true) (x4 : Int32) :
    ∃ V : qm_S, qf_Model_bring w (nI m) x (nI B) x4 = rr_bx V (nI m) (nI B) x4 ∧ (∀ k, k ≠ 3 → V.1 k = w.1 k) ∧ V.2 14 = w.2 14 ∧ V.2 8 m = nI B ∧ (∀ j, j < 12 → V.2 12 (12 * j + m) ≠ 1) ∧ ∀ f : Option Nat → zz_S → Prop, (∀ q U, rr_M U V → rr_E U V (va_up φ m q) (rr_ins ms kk m) (S + b) (va_up r m r0) (va_up Z m (4 * σ)) (va_up G m (4 * γ)) → (∀ k, k ≠ 15 → k ≠ 16 → U.1 k = u.1 k) → (∀ k, k ≠ 0 → k ≠ 1 → U.2.1 k = u.2.1 k) → f (some q) U) → xw_b (zf_Loader_writeImage u (nI B)) fun u3 => xw_cq (fun Po => zp_Loader_enter Po (fun _ _ => False) u3 x (nI B)) f := by
  have hE0 := hE
  obtain ⟨hG, hL, hNd, hD, hBs⟩ := hE
  obtain ⟨hb, hγ, hz, hq, hn, ⟨z9, q27, z10, q28, z11, q29⟩, -, -, hfi, hfe, hp⟩ := hff
  have hb0 := hb
  obtain ⟨b1, b2, b3, b4, b5⟩ := hb
  obtain ⟨g1, g2⟩ := rr_ens hL hkk
  have hrw : 4 * σ ≤ 16 * rr_rows (4 * σ) := by unfold rr_rows; omega
  have hfit2 : r0 + rr_rows (4 * σ) ≤ rr_st ms r kk := by unfold rr_gp at hfit; omega
  have hB4 : B + 4 * σ ≤ 4096 := by omega
  have hBm : B % 4 = 0 := by omega
  have h12 : ∀ k ∈ ms, k < 12 := fun k hk => ((hL.1 k).mp hk).1
  have hrow : ∀ k, k < 12 → w.2 12 (12 * m + k) = 0 := fun k hk => ((hNd m hm12 k hk).1).resolve_right (fun z => hm ((hNd m hm12 k hk).2 z).1)
  obtain ⟨t1, ht1, q1⟩ := (rr_qmd hBs hb0 hq hN hn hp hf (show B ≤ 4096 by omega) (nI m) x x4 c 0 (4999 - c) (w.2 13) (by omega) ht).1 (fun j _ hj => hr j hj)
  rw [show 4999 - c + c + 1 = xx_fu by unfold xx_fu; omega, rr_upI, nI_0] at q1
  have hT := rr_mwk (f := rr_fm (u.2.1 3) (rr_sa w) σ (8 + σ + 2 * a + 3 * b) B) (o := rr_of (u.2.1 3) (8 + σ + 2 * a + 3 * b)) (T := u.2.1 3) (σ := σ) c (fun j hj => ((rr_pf b3 b2 (hp j hj)).2.1).2)
  obtain ⟨T, hTd⟩ : ∃ T, T = rr_mw (rr_fm (u.2.1 3) (rr_sa w) σ (8 + σ + 2 * a + 3 * b) B) (rr_of (u.2.1 3) (8 + σ + 2 * a + 3 * b)) (u.2.1 3) c := ⟨_, rfl⟩
  have hwri := rr_wri hBs hb0 hz hp hf hB4 hBm
  rw [← hTd] at ht1 hT hwri
  have q2 := rr_qcp (w := (w.1, va_up w.2 13 t1)) (σ := σ) (B := B) (m := m) hq.1 b2 hB4 hm12 x x4 (4 * σ) 0 (4999 - 4 * σ) (by omega)
  rw [show 4999 - 4 * σ + 4 * σ + 1 = xx_fu by unfold xx_fu; omega, rr_cpb0, nI_0] at q2
  have e2 : ((w.1, va_up w.2 13 t1).1, va_up ((w.1, va_up w.2 13 t1) : qm_S).2 1 (((w.1, va_up w.2 13 t1) : qm_S).2 1)) = (w.1, va_up w.2 13 t1) := by rw [rr_upI]
  rw [e2] at q2
  obtain ⟨wb, hwb⟩ : ∃ wb : qm_S, wb = (w.1, rr_nw (w.1, va_up w.2 13 t1) (va_up (va_up w.2 13 t1) 1 (rr_cpb (w.2 1) t1 B (4 * σ))) m x B) := ⟨_, rfl⟩
  have q2' : qf_Model_bring_b44 xx_fu (w.1, va_up w.2 13 t1) (nI m) x (nI B) x4 0 = qf_Model_bring_b132 xx_fu wb (nI m) (nI B) x4 0 := by rw [hwb]; exact q2
  have wb1 : wb.1 = w.1 := by rw [hwb]
  have wb2 : wb.2 2 = w.2 2 ∧ wb.2 3 = w.2 3 ∧ wb.2 4 = w.2 4 ∧ wb.2 5 = w.2 5 ∧ wb.2 12 = w.2 12 ∧ wb.2 13 = t1 ∧ wb.2 14 = w.2 14 ∧ wb.2 1 = rr_cpb (w.2 1) t1 B (4 * σ) := by rw [hwb]; exact ⟨rfl, rfl, rfl, rfl, rfl, rfl, rfl, rfl⟩
  have wb6 : wb.2 6 = va_up (w.2 6) m 1 ∧ wb.2 7 = va_up (w.2 7) m x ∧ wb.2 8 = va_up (w.2 8) m (nI B) ∧ wb.2 9 = va_up (w.2 9) m (nI (4 * σ)) ∧ wb.2 10 = va_up (w.2 10) m (nI (4 * γ)) ∧ wb.2 11 = va_up (w.2 11) m (u.2.1 3 6) := by
    rw [hwb]
    refine ⟨rfl, rfl, rfl, ?_, ?_, ?_⟩
    · show va_up (w.2 9) m (w.1 26) = _
      rw [hq.1]
    · show va_up (w.2 10) m (w.1 29) = _
      rw [q29]
    · show va_up (w.2 11) m (w.1 28) = _
      rw [q28]
  obtain ⟨wb22, wb23, wb24, wb25, wb12, wb13, wb14, wbm⟩ := wb2
  obtain ⟨wb66, wb67, wb68, wb69, wb610, wb611⟩ := wb6
  have hBb : ∀ {U : zz_S}, rr_B U w φ ms S → rr_B U wb φ ms S := fun {U} h => ⟨h.1, h.2.1, by rw [wb1]; exact h.2.2.1, fun k hk => by
    obtain ⟨p, ow, y1, y2, y3, y4⟩ := h.2.2.2 k hk
    exact ⟨p, ow, y1, y2, by rw [wb22, wb23, wb24]; exact y3, by rw [wb25]; exact y4⟩⟩
  have hqb : rr_hq wb σ a b c := by unfold rr_hq; rw [wb1]; exact hq
  have htb : rr_tw T (wb.2 13) N := by rw [wb13]; exact ht1
  have hfb : ∀ j, j < a → ∃ k, k < S ∧ wb.2 2 k = u.2.1 3 (8 + σ + 2 * j) := by rw [wb22]; exact hf
  have q3 := rr_neq (m := m) (hBb hBs) hb0 hqb htb hN hn hT hfb h12 hm12 (nI B) x4 a 0 (4999 - a) (by omega)
  rw [show 4999 - a + a + 1 = xx_fu by unfold xx_fu; omega, show rr_nl wb (u.2.1 3) (8 + σ) 0 = [] from rfl, rr_nr0 (by rw [wb12]; exact hrow), rr_upI, nI_0] at q3
  obtain ⟨ns, hns⟩ : ∃ ns, ns = rr_nl wb (u.2.1 3) (8 + σ) a := ⟨_, rfl⟩
  obtain ⟨n1, n2, n3⟩ := rr_nli (hBb hBs) h12 hfb a (Nat.le_refl _)
  rw [← hns] at q3 n1 n2 n3
  obtain ⟨wc, hwc⟩ : ∃ wc : qm_S, wc = (wb.1, va_up wb.2 12 (rr_nrf wb m ns)) := ⟨_, rfl⟩
  rw [← hwc] at q3
  have wc1 : wc.1 = w.1 := by rw [hwc]; exact wb1
  have wck : ∀ k, k ≠ 12 → wc.2 k = wb.2 k := fun k hk => by rw [hwc]; exact rr_upN _ _ hk
  have wc12 : wc.2 12 = rr_nrf wb m ns := by rw [hwc]; rfl
  have hwc3 : wc.1 3 = nI S := by rw [wc1]; exact hBs.2.2.1
  have hqc : rr_hq wc σ a b c := by unfold rr_hq; rw [wc1]; exact hq
  have q4 := rr_xq (w := wc) (W := u.2.1 3) (T := T) (B := B) hb0 hN hn hS hm12 hwc3 hqc (by rw [wck 13 (by decide)]; exact htb) hT x4 b 0 (4999 - b) (by omega)
  rw [show 4999 - b + b + 1 = xx_fu by unfold xx_fu; omega, show rr_xa wc (u.2.1 3) (8 + σ + 2 * a) B m S 0 = wc from rfl, nI_0] at q4
  obtain ⟨k1, k2, k3, k4⟩ := rr_xak (W := u.2.1 3) (e := 8 + σ + 2 * a) (B := B) hwc3 hm12 b
  obtain ⟨V, hV⟩ : ∃ V, V = rr_xa wc (u.2.1 3) (8 + σ + 2 * a) B m S b := ⟨_, rfl⟩
  rw [← hV] at q4 k1 k2 k3 k4
  have v12 : V.2 12 = rr_nrf wb m ns := (k3 12 (by decide) (by decide) (by decide) (by decide)).trans wc12
  have v12a : ∀ k, k < 12 → V.2 12 (12 * m + k) = if k ∈ ns then 1 else 0 := fun k hk => by
    rw [v12, rr_nrf, if_pos (by omega), show 12 * m + k - 12 * m = k by omega]
  have v12b : ∀ i, i < 12 * m ∨ 12 * m + 12 ≤ i → V.2 12 i = w.2 12 i := fun i hi => by
    rw [v12, rr_nrf, if_neg (by omega), wb12]
  have v8 : V.2 8 = va_up (w.2 8) m (nI B) := (k3 8 (by decide) (by decide) (by decide) (by decide)).trans ((wck 8 (by decide)).trans wb68)
  refine ⟨V, ?_, fun k hk => by rw [k1 k hk, wc1], ?_, by rw [v8, rr_upS], fun j hj z => ?_, fun f hF => ?_⟩
  · unfold qf_Model_bring
    rw [rr_nm, q1, q2', q3, q4]
  · rw [k3 14 (by decide) (by decide) (by decide) (by decide), wck 14 (by decide), wb14]
  · by_cases e : j = m
    · rw [e, v12a m hm12] at z
      by_cases e2 : m ∈ ns
      · exact hm (n3 m e2)
      · rw [if_neg e2] at z
        exact absurd z (by decide)
    · rw [v12b _ (by omega)] at z
      exact hm ((hNd j hj m hm12).2 z).2.1
  · refine ⟨_, hwri, ?_⟩
    obtain ⟨ua, hua⟩ : ∃ ua : zz_S, ua = (u.1, va_up u.2.1 0 (rr_cpw (u.2.1 0) T (B / 4) σ), u.2.2) := ⟨_, rfl⟩
    rw [← hua]
    have ua1 : ua.1 = u.1 := by rw [hua]
    have ua2 : ua.2.2 = u.2.2 := by rw [hua]
    have uam : ua.2.1 0 = rr_cpw (u.2.1 0) T (B / 4) σ := by rw [hua]; rfl
    have uak : ∀ k, k ≠ 0 → ua.2.1 k = u.2.1 k := fun k hk => by rw [hua]; exact rr_upN _ _ hk
    have ua3 : ua.2.1 3 = u.2.1 3 := uak 3 (by decide)
    have hza : rr_hz ua σ a b c := by unfold rr_hz; rw [ua1]; exact hz
    have hBa : rr_B ua w φ ms S := ⟨hBs.1, by rw [ua1]; exact hBs.2.1, hBs.2.2.1, fun k hk => by
      obtain ⟨p, ow, y1, y2, y3, y4⟩ := hBs.2.2.2 k hk
      exact ⟨p, ow, by rw [ua2]; exact y1, by rw [ua2]; exact y2, by rw [ua2]; exact y3, y4⟩⟩
    refine rr_xcq ?_
    unfold zp_Loader_enter
    intro q hqf
    rw [ua2] at hqf
    refine rr_wnn rfl ?_
    refine rr_init9 (σ := σ) (b := b) (γ := γ) (r0 := r0) (e := u.2.1 3 6) x (by rw [ua2]; exact hqf) (by rw [ua1]; exact hz.1) (by rw [ua1]; exact hz.2.2.1) (by rw [ua1]; exact z10) (by rw [ua1]; exact z11) hB (by omega) b2 _ (fun nd hnd => ?_)
    rw [ua2] at hnd
    refine rr_wnn rfl ?_
    have hz0 := rr_nez (u := ua) (w := wb) (φ := φ) (ms := ms) (q := q) (nd := nd) (B := B) (r0 := r0) (γ := γ) (x := x) (e := u.2.1 3 6) (hBb hBa) hb0 hza (by rw [ua3]; exact hfb) (by rw [ua2]; exact hqf) (by rw [ua2]; exact hnd) hD.2.2.1 (fun k hk => by
      obtain ⟨c1, nd2, ns2, c2, -⟩ := hD.2.2.2.2 k hk
      rw [ua2]
      exact ⟨_, c1, c2⟩) h12 (fun rv u1 => ∃ r, rv = some (va_rf r) ∧ f r u1) (fun _ _ => False) (nI B) a 0 (4999 - a) (fun _ => none) (by omega) (fun j hj => absurd hj (Nat.not_lt_zero _))
    rw [show 4999 - a + a + 1 = xx_fu by unfold xx_fu; omega, ua3, ← hns, show (rr_nl wb (u.2.1 3) (8 + σ) 0).length = 0 from rfl, nI_0] at hz0
    refine hz0 (fun arr harr => ?_)
    obtain ⟨f8, f9, f5, f1, fL, fS⟩ := rr_fl8 (x := x) (B := B) (σ := σ) (b := b) (r0 := r0) (γ := γ) (e := u.2.1 3 6) (nd := nd) (c := ns.length)
    obtain ⟨m1, m2, m3, m4⟩ := rr_nuq (u := ua) (q := q) (nd := nd) (l := rr_fl x B σ b r0 γ (u.2.1 3 6) nd ns.length) (arr := arr)
    have hgu : rr_grow u (rr_nu ua q nd (rr_fl x B σ b r0 γ (u.2.1 3 6) nd ns.length) arr) := by
      have := rr_nug (u := ua) (q := q) (nd := nd) (by rw [ua2]; exact hqf) (by rw [ua2]; exact hnd) (rr_fl x B σ b r0 γ (u.2.1 3 6) nd ns.length) arr
      unfold rr_grow at this ⊢
      rw [ua2] at this
      exact this
    obtain ⟨Ub, hUb⟩ : ∃ Ub, Ub = rr_nu ua q nd (rr_fl x B σ b r0 γ (u.2.1 3 6) nd ns.length) arr := ⟨_, rfl⟩
    rw [← hUb] at m1 m2 m3 m4 hgu ⊢
    have ub1 : Ub.1 = u.1 := by rw [hUb]; exact ua1
    have ubm : Ub.2.1 = ua.2.1 := by rw [hUb]; rfl
    have ube : Ub.2.2.1 = u.2.2.1 := by rw [hUb]; show ua.2.2.1 = _; rw [ua2]
    have hgd := rr_guard Ub B γ 1 rr_nb1 hBm (by omega)
    refine ⟨_, rr_pi m1 m2 f5, _, hgd, ?_⟩
    refine rr_wnn rfl ?_
    obtain ⟨Uc, hUc⟩ : ∃ Uc : zz_S, Uc = (Ub.1, va_up Ub.2.1 1 (rr_gf (Ub.2.1 1) B (4 * γ) 1), Ub.2.2) := ⟨_, rfl⟩
    rw [← hUc]
    have uc1 : Uc.1 = u.1 := by rw [hUc]; exact ub1
    have uc2 : Uc.2.2 = Ub.2.2 := by rw [hUc]
    have ucg : Uc.2.1 1 = rr_gf (u.2.1 1) B (4 * γ) 1 := by
      rw [hUc]
      show rr_gf (Ub.2.1 1) B (4 * γ) 1 = _
      rw [ubm, uak 1 (by decide)]
    have uck : ∀ k, k ≠ 0 → k ≠ 1 → Uc.2.1 k = u.2.1 k := fun k h0 h1 => by
      rw [hUc]
      show va_up Ub.2.1 1 _ k = _
      rw [rr_upN _ _ h1, ubm, uak k h0]
    have ucm : Uc.2.1 0 = rr_cpw (u.2.1 0) T (B / 4) σ := by
      rw [hUc]
      show Ub.2.1 0 = _
      rw [ubm, uam]
    have hgc : rr_grow u Uc := by
      unfold rr_grow at hgu ⊢
      rw [uc2]
      exact hgu
    have hne : ∀ {k}, k ∈ ms → k ≠ m := fun hk z => hm (z ▸ hk)
    have hYc : ∀ k, k < S + 0 → rr_Y Uc (rr_xa wc (u.2.1 3) (8 + σ + 2 * a) B m S 0) (va_up φ m q) (rr_ins ms kk m) k := fun k hk => by
      obtain ⟨p, ow, y1, y2, y3, y4⟩ := hBs.2.2.2 k hk
      have e22 : wc.2 2 = w.2 2 := (wck 2 (by decide)).trans wb22
      have e23 : wc.2 3 = w.2 3 := (wck 3 (by decide)).trans wb23
      have e24 : wc.2 4 = w.2 4 := (wck 4 (by decide)).trans wb24
      have e25 : wc.2 5 = w.2 5 := (wck 5 (by decide)).trans wb25
      show rr_Y Uc wc (va_up φ m q) (rr_ins ms kk m) k
      refine ⟨p, ow, ?_, (hgc.1 p y2).1, ?_, ?_⟩
      · rw [uc2, ube]; exact y1
      · rw [(hgc.1 p y2).2, e22, e23, e24]; exact y3
      · rw [e25]
        rcases y4 with y4 | ⟨k2, hk2, y4, y5⟩
        · exact Or.inl y4
        · exact Or.inr ⟨k2, rr_inm.mpr (Or.inl hk2), y4, by rw [rr_upN _ _ (hne hk2)]; exact y5⟩
    have hzc : rr_hz Uc σ a b c := by unfold rr_hz; rw [uc1]; exact hz
    have hx0 := rr_xz (w := wc) (W := u.2.1 3) (φ := va_up φ m q) (ms := rr_ins ms kk m) (S := S) (m := m) (q := q) (B := B) hb0 hS hwc3 (rr_inm.mpr (Or.inr rfl)) hm12 (rr_upS _ _ _) (fun rv u1 => ∃ r, rv = some (va_rf r) ∧ f r u1) (fun _ _ => False) b 0 (4999 - b) Uc (by omega) (by rw [uc1]; exact hBs.2.1) hzc (uck 3 (by decide) (by decide)) hYc
    rw [show 4999 - b + b + 1 = xx_fu by unfold xx_fu; omega, nI_0, ← hV] at hx0
    refine hx0 (fun Ud hpo => ?_)
    obtain ⟨p1, p2, p3, p4, p5, p6, p7⟩ := hpo
    have hgd2 : rr_grow u Ud := rr_growT hgc p1
    have mq : q ∈ Uc.2.2.2.1.1 ∧ Uc.2.2.2.1.2 q = (9, rr_fl x B σ b r0 γ (u.2.1 3 6) nd ns.length) := by rw [uc2]; exact ⟨m1, m2⟩
    have dq1 := (p1.1 q mq.1).1
    have dq2 := ((p1.1 q mq.1).2).trans mq.2
    have mn : nd ∈ Uc.2.2.2.2.1 := by rw [uc2]; exact m3
    obtain ⟨t1', t2'⟩ := rr_gst2 hL hkk
    obtain ⟨e1, i1, i2⟩ := rr_insert (u := Ud) (φ := φ) (ms := ms) (r := r) (kk := kk) (q := q) (B := B) (l := rr_fl x B σ b r0 γ (u.2.1 3 6) nd ns.length) (by rw [p2 16 (by decide), uc1]; exact hD.1) hlen hkk (fun k hk => by rw [p5 1 (by decide), uc2, ube]; exact hD.2.1 k hk) (fun k hk => by
      obtain ⟨c1, nd2, ns2, c2, -⟩ := hD.2.2.2.2 k hk
      refine ⟨_, (hgd2.1 _ c1).1, (hgd2.1 _ c1).2.trans c2, ?_⟩
      rw [(hL.2.2.2 k hk).2.2.2.2.2.2.1]
      rfl) (fun k hk => by have := (rr_row1 hL hk).2; omega) (by omega) dq1 dq2 f1 (fun k hk h => by
      have h1 := t1' ms[k] (by
        rw [List.mem_iff_getElem]
        exact ⟨k, by rw [List.length_take]; omega, by rw [List.getElem_take]⟩)
      omega) (fun k hk h => by
      have h1 := t2' ms[k] (by
        rw [List.mem_iff_getElem]
        refine ⟨k - kk, by rw [List.length_drop]; omega, ?_⟩
        rw [List.getElem_drop]
        congr 1
        omega)
      have h2 : 1 ≤ rr_rows (4 * σ) := by unfold rr_rows; omega
      omega)
    refine ⟨_, i1, some q, rfl, hF q _ ?_ ?_ ?_ ?_⟩
    · intro i hi
      show V.2 1 i = rr_by (Ud.2.1 0 (i / 4)) (i % 4)
      rw [k3 1 (by decide) (by decide) (by decide) (by decide), wck 1 (by decide), wbm, p4, ucm]
      exact rr_Mim hM ht1 (by omega) hBm i hi
    · refine rr_entE (e := u.2.1 3 6) (nd := nd) (ns := ns) hE0 hm12 hm hx hkk hr0 hB hfit ⟨b1, b2⟩ hγ hS hqf ?_ ?_ rfl ?_ (fun j hj => ?_) hgd2 ⟨dq1, dq2⟩ ⟨(p1.2 nd mn).1, fun j hj => ?_⟩ (fun k hk => ?_) k2 ?_ ?_ v8 ?_ ?_ ?_ v12a v12b (fun t ht => ?_) n1 (by omega) n3
      · show Ud.1 0 = _
        rw [p2 0 (by decide), uc1]
      · exact p3
      · show Ud.2.1 1 = _
        rw [p4, ucg]
      · show e1 j = _
        rw [i2 j hj, rr_inj hkk]
        by_cases c1 : j < kk
        · rw [if_pos c1, if_pos c1]
          have hjl : j < ms.length := by omega
          rw [List.getElem?_eq_getElem hjl, Option.map_some, Option.map_some, rr_upN _ _ (hne (List.getElem_mem hjl))]
        · rw [if_neg c1, if_neg c1]
          by_cases c2 : j = kk
          · rw [if_pos c2, if_pos c2, Option.map_some, rr_upS]
          · rw [if_neg c2, if_neg c2]
            have hjl : j - 1 < ms.length := by omega
            rw [List.getElem?_eq_getElem hjl, Option.map_some, Option.map_some, rr_upN _ _ (hne (List.getElem_mem hjl))]
      · show Ud.2.2.2.2.2 nd j = _
        rw [(p1.2 nd mn).2, uc2, m4]
        exact harr j hj
      · obtain ⟨p, ow, y1, y2, y3, y4⟩ := p7 k hk
        exact ⟨p, ow, y1, y2, y3, y4⟩
      · exact (k3 6 (by decide) (by decide) (by decide) (by decide)).trans ((wck 6 (by decide)).trans wb66)
      · exact (k3 7 (by decide) (by decide) (by decide) (by decide)).trans ((wck 7 (by decide)).trans wb67)
      · exact (k3 9 (by decide) (by decide) (by decide) (by decide)).trans ((wck 9 (by decide)).trans wb69)
      · exact (k3 10 (by decide) (by decide) (by decide) (by decide)).trans ((wck 10 (by decide)).trans wb610)
      · exact (k3 11 (by decide) (by decide) (by decide) (by decide)).trans ((wck 11 (by decide)).trans wb611)
      · rw [k4 t ht, wck 5 (by decide), wb25]
    · intro k h15 h16
      show va_up Ud.1 16 _ k = _
      rw [rr_upN _ _ h16, p2 k h15, uc1]
    · intro k h0 h1
      show Ud.2.1 k = _
      rw [p4, uck k h0 h1]
