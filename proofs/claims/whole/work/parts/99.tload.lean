/-! whom a module needs, once more, so that it hangs on the reference alone -/
def rr_own (w : qm_S) (x : Int32) : Int32 := w.2 5 ((((qf_Model_find w x).map Prod.fst).getD 0).toNatClampNeg)
theorem rr_owj {w : qm_S} {x : Int32} {j : Nat} (h : qf_Model_find w x = some (nI j, w)) (hj : j < 2 ^ 31) : rr_own w x = w.2 5 j := by
  unfold rr_own
  rw [h, Option.map_some, Option.getD_some]
  show w.2 5 (nI j).toNatClampNeg = _
  rw [nI_clamp hj]
theorem rr_owe {w w1 : qm_S} (h3 : w1.1 3 = w.1 3) (h2 : w1.2 2 = w.2 2) (h5 : w1.2 5 = w.2 5) (x : Int32) : rr_own w1 x = rr_own w x := by
  unfold rr_own qf_Model_find
  rw [rr_nm, rr_nm, rr_fdl h3 h2, h5]
def rr_nl (w : qm_S) (W : Nat → Int32) (s : Nat) : Nat → List Nat
  | 0 => []
  | i + 1 => if rr_own w (W (s + 2 * i)) < 0 then rr_nl w W s i else rr_ad (rr_nl w W s i) (rr_own w (W (s + 2 * i))).toNatClampNeg
theorem rr_nlN {w : qm_S} {W : Nat → Int32} {s i : Nat} (h : rr_own w (W (s + 2 * i)) < 0) : rr_nl w W s (i + 1) = rr_nl w W s i := by rw [rr_nl, if_pos h]
theorem rr_nlS {w : qm_S} {W : Nat → Int32} {s i k : Nat} (h : rr_own w (W (s + 2 * i)) = nI k) (hk : k < 12) : rr_nl w W s (i + 1) = rr_ad (rr_nl w W s i) k := by
  rw [rr_nl, h, if_neg (nI_pos (by omega)), nI_clamp (by omega)]
def rr_nrf (w : qm_S) (m : Nat) (ns : List Nat) : Nat → Int32 := fun i => if 12 * m ≤ i ∧ i < 12 * m + 12 then (if i - 12 * m ∈ ns then 1 else 0) else w.2 12 i
theorem rr_adm {ns : List Nat} {k t : Nat} : t ∈ rr_ad ns k ↔ t ∈ ns ∨ t = k := by
  unfold rr_ad
  by_cases cc : k ∈ ns
  · rw [if_pos cc]
    exact ⟨Or.inl, fun z => z.elim id (fun e => e ▸ cc)⟩
  · rw [if_neg cc, List.mem_append, List.mem_singleton]
theorem rr_nrS {w : qm_S} {m k : Nat} {ns : List Nat} (hk : k < 12) : va_up (rr_nrf w m ns) (12 * m + k) 1 = rr_nrf w m (rr_ad ns k) := by
  funext i
  by_cases e : i = 12 * m + k
  · subst e
    rw [rr_upS, rr_nrf, if_pos (by omega), if_pos (rr_adm.mpr (Or.inr (by omega)))]
  · rw [rr_upN _ _ e, rr_nrf, rr_nrf]
    by_cases q : 12 * m ≤ i ∧ i < 12 * m + 12
    · rw [if_pos q, if_pos q]
      by_cases c : i - 12 * m ∈ ns
      · rw [if_pos c, if_pos (rr_adm.mpr (Or.inl c))]
      · rw [if_neg c, if_neg (fun z => (rr_adm.mp z).elim c (fun z => by omega))]
    · rw [if_neg q, if_neg q]
theorem rr_owx {u : zz_S} {w : qm_S} {φ : Nat → Nat} {ms : List Nat} {S : Nat} (hB : rr_B u w φ ms S) {x : Int32} (hf : ∃ k, k < S ∧ w.2 2 k = x) : ∃ j, j < S ∧ zf_SymbolTable_find u x = some (u.2.2.1 0 j, u) ∧ qf_Model_find w x = some (nI j, w) ∧ rr_own w x = w.2 5 j := by
  have hS := hB.1
  rcases rr_find hB x with ⟨j, h1, h2, h3, h4⟩ | ⟨h1, h3, h4⟩
  · exact ⟨j, h1, h3, h4, rr_owj h4 (by omega)⟩
  · obtain ⟨j, h5, h6⟩ := hf
    exact absurd h6 (h1 j h5)
theorem rr_nli {u : zz_S} {w : qm_S} {φ : Nat → Nat} {ms : List Nat} {W : Nat → Int32} {S s a : Nat} (hB : rr_B u w φ ms S) (h12 : ∀ k ∈ ms, k < 12) (hf : ∀ j, j < a → ∃ k, k < S ∧ w.2 2 k = W (s + 2 * j)) : ∀ i, i ≤ a → (rr_nl w W s i).Nodup ∧ (rr_nl w W s i).length ≤ i ∧ ∀ k ∈ rr_nl w W s i, k ∈ ms := by
  intro i
  induction i with
  | zero => intro _; exact ⟨List.Pairwise.nil, Nat.le_refl _, fun k hk => by simp [rr_nl] at hk⟩
  | succ i ih =>
    intro h
    obtain ⟨i1, i2, i3⟩ := ih (by omega)
    obtain ⟨j, h1, h3, h4, h5⟩ := rr_owx hB (hf i (by omega))
    obtain ⟨p, ow, y1, y2, y3, y4⟩ := hB.2.2.2 j h1
    rcases y4 with ⟨y4, y5⟩ | ⟨k, hk, y4, y5⟩
    · rw [rr_nlN (by rw [h5, y4]; decide)]
      exact ⟨i1, by omega, i3⟩
    · rw [rr_nlS (h5.trans y4) (h12 k hk)]
      refine ⟨?_, ?_, fun t ht => (rr_adm.mp ht).elim (i3 t) (fun z => z ▸ hk)⟩
      · unfold rr_ad
        by_cases cc : k ∈ rr_nl w W s i
        · rw [if_pos cc]; exact i1
        · rw [if_neg cc, List.nodup_append]
          refine ⟨i1, by simp, fun a ha b hb => ?_⟩
          rw [List.mem_singleton] at hb
          rw [hb]
          exact fun z => cc (z ▸ ha)
      · unfold rr_ad
        by_cases cc : k ∈ rr_nl w W s i
        · rw [if_pos cc]; omega
        · rw [if_neg cc, List.length_append]; simp; omega
theorem rr_neq {u : zz_S} {w : qm_S} {φ : Nat → Nat} {ms : List Nat} {W T : Nat → Int32} {S N σ a b c m : Nat} (hB : rr_B u w φ ms S) (hb : rr_fb σ a b c) (hqh : rr_hq w σ a b c) (ht : rr_tw T (w.2 13) N) (hN : N ≤ 1200) (hn : N = 4 * (8 + σ + 2 * a + 3 * b + 4 * c)) (hT : ∀ i, 8 + σ ≤ i → T i = W i) (hf : ∀ j, j < a → ∃ k, k < S ∧ w.2 2 k = W (8 + σ + 2 * j)) (h12 : ∀ k ∈ ms, k < 12) (hm : m < 12) (x3 x4 : Int32) : ∀ (d i n : Nat), i + d = a → qf_Model_bring_b132 (n + d + 1) (w.1, va_up w.2 12 (rr_nrf w m (rr_nl w W (8 + σ) i))) (nI m) x3 x4 (nI i) = qf_Model_bring_b189 xx_fu (w.1, va_up w.2 12 (rr_nrf w m (rr_nl w W (8 + σ) a))) (nI m) x3 x4 0 := by
  obtain ⟨b1, b2, b3, b4, b5⟩ := hb
  have hS := hB.1
  intro d
  induction d with
  | zero =>
    intro i n h
    have ei : i = a := by omega
    subst ei
    rw [qf_Model_bring_b132, if_pos (by show w.1 23 ≤ nI i; rw [hqh.2.1]; exact nI_le (Nat.le_refl _) (by omega)), rr_nm]
  | succ d ih =>
    intro i n h
    have hia : i < a := by omega
    obtain ⟨nr, hnr⟩ : ∃ nr, nr = rr_nrf w m (rr_nl w W (8 + σ) i) := ⟨_, rfl⟩
    have hB' : rr_B u (w.1, va_up w.2 12 nr) φ ms S := hB
    obtain ⟨j, h1, h3, h4, h5⟩ := rr_owx hB' (hf i hia)
    have ho : rr_own w (W (8 + σ + 2 * i)) = w.2 5 j := (rr_owe (w := w) (w1 := (w.1, va_up w.2 12 nr)) rfl rfl rfl _).symm.trans h5
    obtain ⟨p, ow, y1, y2, y3, y4⟩ := hB.2.2.2 j h1
    have st : qf_Model_bring_b132 (n + (d + 1) + 1) (w.1, va_up w.2 12 nr) (nI m) x3 x4 (nI i) = if w.2 5 j < 0 then qf_Model_bring_b132 (n + d + 1) (w.1, va_up w.2 12 nr) (nI m) x3 x4 (nI (i + 1)) else ((xx_as nr 144 (((12 : Int32) * nI m) + w.2 5 j) 1).bind fun f9 => qf_Model_bring_b132 (n + d + 1) (w.1, va_up w.2 12 f9) (nI m) x3 x4 (nI (i + 1))) := by
      rw [qf_Model_bring_b132, if_neg (by show ¬ w.1 23 ≤ nI i; rw [hqh.2.1]; exact nI_ge hia (by omega)), rr_imA (w := (w.1, va_up w.2 12 nr)) hqh, rr_b2s, rr_tq (w := (w.1, va_up w.2 12 nr)) ht hN (by omega), rr_b2s, hT _ (by omega), h4, rr_b2s, rr_ag (by omega) (by decide), Option.bind_some, rr_nb1, qf_Model_bring_b180, rr_nm, nI_1]
      have e1 : ∀ f9, (xx_nm ((w.1, va_up w.2 12 nr).1, va_up ((w.1, va_up w.2 12 nr) : qm_S).2 12 f9) fun u10 => qf_Model_bring_b180 (qf_Model_bring_b132 (n + (d + 1))) u10 (nI m) x3 x4 (nI i)) = qf_Model_bring_b132 (n + d + 1) (w.1, va_up w.2 12 f9) (nI m) x3 x4 (nI (i + 1)) := fun f9 => by
        rw [rr_nm, qf_Model_bring_b180, rr_nm, nI_1]
        show qf_Model_bring_b132 _ (w.1, va_up (va_up w.2 12 nr) 12 f9) _ _ _ _ = _
        rw [rr_upU]
        rfl
      simp only [e1]
      rfl
    rw [← hnr, st]
    rcases y4 with ⟨y4, y5⟩ | ⟨k, hk, y4, y5⟩
    · have e := ih (i + 1) n (by omega)
      rw [rr_nlN (by rw [ho, y4]; decide), ← hnr] at e
      rw [if_pos (by rw [y4]; decide), e]
    · have hk12 := h12 k hk
      have e := ih (i + 1) n (by omega)
      rw [rr_nlS (ho.trans y4) hk12, ← rr_nrS hk12, ← hnr] at e
      rw [y4, if_neg (nI_pos (by omega)), show (12 : Int32) * nI m = nI (12 * m) from pk_mul 12 m, nI_add, rr_as (by omega) (by decide), Option.bind_some, e]
theorem rr_nez {u : zz_S} {w : qm_S} {φ : Nat → Nat} {ms : List Nat} {S σ a b c q nd B r0 γ : Nat} {x e : Int32} (hB : rr_B u w φ ms S) (hb : rr_fb σ a b c) (hz : rr_hz u σ a b c) (hf : ∀ j, j < a → ∃ k, k < S ∧ w.2 2 k = u.2.1 3 (8 + σ + 2 * j)) (hq : q ∉ u.2.2.2.1.1) (hnd : nd ∉ u.2.2.2.2.1) (hi : ∀ a ∈ ms, ∀ b ∈ ms, φ a = φ b → a = b) (ho : ∀ k ∈ ms, ∃ l, φ k ∈ u.2.2.2.1.1 ∧ u.2.2.2.1.2 (φ k) = (9, l)) (h12 : ∀ k ∈ ms, k < 12) (Po : Option Value → zz_S → Prop) (Px : String → zz_S → Prop) (x2 : Int32) : ∀ (d i n : Nat) (arr : Nat → Option Nat), i + d = a → (∀ j (h : j < (rr_nl w (u.2.1 3) (8 + σ) i).length), arr j = some (φ (rr_nl w (u.2.1 3) (8 + σ) i)[j])) → (∀ arr1, (∀ j (h : j < (rr_nl w (u.2.1 3) (8 + σ) a).length), arr1 j = some (φ (rr_nl w (u.2.1 3) (8 + σ) a)[j])) → rr_re Po Px x2 q (rr_nu u q nd (rr_fl x B σ b r0 γ e nd (rr_nl w (u.2.1 3) (8 + σ) a).length) arr1)) → zp_Loader_enter_b17 Po Px (n + d + 1) (rr_nu u q nd (rr_fl x B σ b r0 γ e nd (rr_nl w (u.2.1 3) (8 + σ) i).length) arr) x2 q (nI i) := by
  have hb0 := hb
  obtain ⟨b1, b2, b3, b4, b5⟩ := hb
  intro d
  induction d with
  | zero =>
    intro i n arr h hI hR
    have ei : i = a := by omega
    subst ei
    rw [zp_Loader_enter_b17]
    refine ⟨fun _ => hR arr hI, fun h => absurd ?_ h⟩
    show u.1 6 ≤ nI i
    rw [hz.2.1]
    exact nI_le (Nat.le_refl _) (by omega)
  | succ d ih =>
    intro i n arr h hI hR
    have hia : i < a := by omega
    obtain ⟨i1, i2, i3⟩ := rr_nli hB h12 hf i (by omega)
    obtain ⟨U, hU⟩ : ∃ U, U = rr_nu u q nd (rr_fl x B σ b r0 γ e nd (rr_nl w (u.2.1 3) (8 + σ) i).length) arr := ⟨_, rfl⟩
    have hg : rr_grow u U := by rw [hU]; exact rr_nug hq hnd _ _
    have hBU : rr_B U w φ ms S := ⟨hB.1, by rw [hU]; exact hB.2.1, hB.2.2.1, fun k hk => rr_Yg hg (by rw [hU]; rfl) rfl rfl rfl rfl (hB.2.2.2 k hk)⟩
    have hzU : rr_hz U σ a b c := by rw [hU]; exact hz
    have hWU : U.2.1 3 = u.2.1 3 := by rw [hU]; rfl
    obtain ⟨x1, -⟩ := rr_zin hzU (i := i) (by omega)
    rw [hWU] at x1
    have hcz : ¬ U.1 6 ≤ nI i := by rw [hzU.2.1]; exact nI_ge hia (by omega)
    obtain ⟨j, h1, h3, h4, h5⟩ := rr_owx hBU (hf i hia)
    obtain ⟨p, ow, y1, y2, y3, y4⟩ := hBU.2.2.2 j h1
    have zst : ∀ U1, zf_LoadedModule_need U q ow = some U1 → zp_Loader_enter_b17 Po Px (n + d + 1) U1 x2 q (nI (i + 1)) → zp_Loader_enter_b17 Po Px (n + (d + 1) + 1) U x2 q (nI i) := fun U1 hn1 hr => by
      rw [zp_Loader_enter_b17]
      refine ⟨fun h => absurd h hcz, fun _ => ⟨_, _, x1, _, _, h3, fun h => ?_, fun a8 h => ?_⟩⟩
      · rw [y1] at h; cases h
      · rw [y1] at h
        cases h
        refine ⟨ow, rr_pq (a := ow) y2 y3 rfl, ?_⟩
        obtain ⟨n1, n2, -, -⟩ := rr_nuq (u := u) (q := q) (nd := nd) (l := rr_fl x B σ b r0 γ e nd (rr_nl w (u.2.1 3) (8 + σ) i).length) (arr := arr)
        rw [← hU] at n1 n2
        refine ⟨(), rr_okp n1 n2, U1, hn1, ?_⟩
        show zp_Loader_enter_b17 Po Px (n + d + 1) U1 x2 q (nI i + 1)
        rw [nI_1]
        exact hr
    rw [← hU]
    rcases y4 with ⟨y4, y5⟩ | ⟨k, hk, y4, y5⟩
    · have el : rr_nl w (u.2.1 3) (8 + σ) (i + 1) = rr_nl w (u.2.1 3) (8 + σ) i := rr_nlN (by rw [h5, y4]; decide)
      have g := ih (i + 1) n arr (by omega) (by rw [el]; exact hI) hR
      rw [el, ← hU] at g
      refine zst U ?_ g
      rw [y5, zf_LoadedModule_need, rr_on0]
      rfl
    · have hk12 := h12 k hk
      have el : rr_nl w (u.2.1 3) (8 + σ) (i + 1) = rr_ad (rr_nl w (u.2.1 3) (8 + σ) i) k := rr_nlS (h5.trans y4) hk12
      obtain ⟨arr2, z1, z2⟩ := rr_need (u := u) (φ := φ) (ms := ms) (ns := rr_nl w (u.2.1 3) (8 + σ) i) (q := q) (nd := nd) (k := k) (x := x) (B := B) (σ := σ) (b := b) (r0 := r0) (γ := γ) (e := e) (arr := arr) hq hi ho hk i3 (by omega) hI
      have g := ih (i + 1) n arr2 (by omega) (by rw [el]; exact z2) hR
      rw [el] at g
      refine zst _ ?_ g
      rw [y5, hU]
      exact z1
