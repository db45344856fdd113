/-! what a module runs when it comes -/
theorem rr_ini {U : zz_S} {V : qm_S} {φ : Nat → Nat} {ms : List Nat} {S m q B F : Nat} {r Z G : Nat → Nat} (hR : rr_R0 U V) (hE : rr_E U V φ ms S r Z G) (hm : m ∈ ms) (hφ : φ m = q) (hB : V.2 8 m = nI B) (hnn : ∀ j, j < 12 → V.2 12 (12 * j + m) ≠ 1) (h27 : V.1 27 = U.1 9) (h0 : V.1 0 = 2) (h17 : V.1 17 = 0) (h18 : V.1 18 = -1) (h19 : V.1 19 = 0) (h20 : V.1 20 = 0) (hF : F ≤ 2000) : ∃ (a : Int32) (w2 : qm_S), ((rr_bx V (nI m) (nI B) (nI F)).bind fun u11 => qf_Model_load_b180 u11 (nI m)) = some (a, w2) ∧ ∀ (Po : Option Value → zz_S → Prop) (Px : String → zz_S → Prop), (∀ u1, w2.1 0 = 0 → rr_Rel u1 w2 → Po (some (.int a)) u1) → (∀ u1, w2.1 0 = 2 → rr_Rel u1 w2 → Px "java/lang/IllegalStateException" u1) → ((U.1 9) = (-1 : Int32) → (zp_Loader_load_b81 Po Px U (some q))) ∧ (¬ (U.1 9) = (-1 : Int32) → (xw_b (zz_pi U q 9 1) fun v10 => xw_b (zf_Loader_execute U (v10 + (U.1 9)) (0 : Int32) (0 : Int32) (nI F)) fun u11 => xw_b (zf_Loader_judgeInit u11 (some q)) fun u12 => zp_Loader_load_b81 Po Px u12 (some q))) := by
  have hm12 := ((hE.2.1.1 m).mp hm).1
  have hFr := hR.2.2.1
  have z17 : U.1 17 = 0 := hFr.1.symm.trans h17
  have adr : ∀ {U2 : zz_S} {W2 : qm_S}, rr_E U2 W2 φ ms S r Z G → W2.2 8 m = nI B → zz_pi U2 q 9 1 = some (nI B) := fun {U2 W2} hE2 h8 => by
    obtain ⟨o1, nd, ns, o2, -⟩ := hE2.2.2.2.1.2.2.2.2 m hm
    rw [hφ] at o1 o2
    rw [rr_pi o1 o2 rfl, h8]
  have ok81 : ∀ {U2 : zz_S} (Po : Option Value → zz_S → Prop) (Px : String → zz_S → Prop), U2.1 17 = 0 → zz_pi U2 q 9 1 = some (nI B) → Po (some (.int (nI B))) U2 → zp_Loader_load_b81 Po Px U2 (some q) := fun {U2} Po Px e1 e2 hp => by
    refine ⟨fun h => (by cases h), fun a1 h => ?_⟩
    cases h
    exact ⟨_, _, rr_hasF U2, fun _ => ⟨_, e2, hp⟩, fun h => absurd (if_pos e1) h⟩
  have bad81 : ∀ {U2 : zz_S} (Po : Option Value → zz_S → Prop) (Px : String → zz_S → Prop), ¬ U2.1 17 = 0 → Px "java/lang/IllegalStateException" U2 → zp_Loader_load_b81 Po Px U2 (some q) := fun {U2} Po Px e1 hp => by
    refine ⟨fun h => (by cases h), fun a1 h => ?_⟩
    cases h
    exact ⟨_, _, rr_hasF U2, fun h => absurd h (by rw [if_neg e1]; decide), fun _ => hp⟩
  have q180 : ∀ (y : Nat → Int32) (W : Nat → Nat → Int32), y 17 = 0 → W 8 m = nI B → qf_Model_load_b180 (y, W) (nI m) = some (nI B, (va_up y 0 0, W)) := fun y W e1 e2 => by
    unfold qf_Model_load_b180
    rw [if_pos (show y 17 ≤ 0 by rw [e1]; decide), rr_nm, rr_ag hm12 (by decide), Option.bind_some]
    show some (W 8 m, _) = _
    rw [e2]
  unfold rr_bx
  rw [h27]
  by_cases c9 : U.1 9 = -1
  · rw [if_pos c9, Option.bind_some]
    refine ⟨nI B, (va_up V.1 0 0, V.2), q180 V.1 V.2 h17 hB, fun Po Px g0 g2 => ⟨fun _ => ?_, fun h => absurd c9 h⟩⟩
    exact ok81 Po Px z17 (adr hE hB) (g0 U rfl (rr_R0E hR hE))
  · rw [if_neg c9]
    obtain ⟨hM, hRg, -, hT, hS⟩ := hR
    obtain ⟨t, u1, u2, w1, b1, e1, e2, hr, k1, k2, k3, k4, k5, kt, kf⟩ := rr_exec (u := U) (w := V) hS hE.1 hE.2.1 hM (nI B + U.1 9) 0 0 hF h20 h19 z17 hFr.2.2.2.2
    have fq := hr.2.1
    have q0 : w1.1 0 = 2 := (fq.1 0 (by decide) (by decide) (by decide) (by decide)).trans h0
    have q17 : w1.1 17 = 0 := (fq.1 17 (by decide) (by decide) (by decide) (by decide)).trans h17
    have q18 : w1.1 18 = -1 := (fq.1 18 (by decide) (by decide) (by decide) (by decide)).trans h18
    have q19 : w1.1 19 = nI t := hr.2.2.2.2.2.1
    have t6 : t ≤ 6 := hr.2.2.2.2.2.2.2.1
    have q8 : w1.2 8 m = nI B := by rw [fq.2 8 (by decide) (by decide)]; exact hB
    have q12 : ∀ j, j < 12 → w1.2 12 (12 * j + m) ≠ 1 := by rw [fq.2 12 (by decide) (by decide)]; exact hnn
    rw [e2, rr_b2s]
    have out : ∀ (u4 : zz_S) (f : Int32), f = u4.1 17 → ¬ f ≤ 0 → ¬ f = 0 → rr_R0 u4 (rr_qb w1 f (-1)) → rr_E u4 (rr_qb w1 f (-1)) φ ms S r Z G → ∃ (w2 : qm_S) (u5 : zz_S), qf_Model_bring_b310 (rr_qb w1 f (-1)) (nI m) = some w2 ∧ qf_Model_load_b180 w2 (nI m) = some (0, w2) ∧ w2.1 0 = 2 ∧ rr_Rel u5 w2 ∧ zf_Loader_takeOut u4 (some q) = some u5 ∧ ¬ u5.1 17 = 0 := fun u4 f hf0 hf1 hf2 hr4 he4 => by
      obtain ⟨u5, w2, S1, s1, s2, s3, s4, s5, s6, s7⟩ := rr_take he4 hm q12
      have w17 : w2.1 17 = f := s5 17 (by decide)
      refine ⟨w2, u5, ?_, ?_, (s5 0 (by decide)).trans q0, rr_R0E (rr_R0t hr4 s3 s4 s5 s6) s7, by rw [← hφ]; exact s1, fun z => hf2 ?_⟩
      · unfold qf_Model_bring_b310
        rw [if_neg (show ¬ (rr_qb w1 f (-1)).1 17 ≤ 0 from hf1), s2, Option.bind_some]
        rfl
      · unfold qf_Model_load_b180
        rw [if_neg (show ¬ w2.1 17 ≤ 0 by rw [w17]; exact hf1)]
      · rw [hf0, ← s3 17 (by decide) (by decide)]
        exact z
    have zrun : ∀ (Po : Option Value → zz_S → Prop) (Px : String → zz_S → Prop), (xw_b (zf_Loader_judgeInit u2 (some q)) fun u12 => zp_Loader_load_b81 Po Px u12 (some q)) → (xw_b (zz_pi U q 9 1) fun v10 => xw_b (zf_Loader_execute U (v10 + (U.1 9)) (0 : Int32) (0 : Int32) (nI F)) fun u11 => xw_b (zf_Loader_judgeInit u11 (some q)) fun u12 => zp_Loader_load_b81 Po Px u12 (some q)) := fun Po Px h => ⟨_, adr hE hB, _, e1, h⟩
    cases b1
    · obtain ⟨f1, f2⟩ := kf rfl
      have fin : ∀ f : Int32, f = u2.1 17 → ¬ f ≤ 0 → ¬ f = 0 → ∃ (a : Int32) (w2 : qm_S), ((qf_Model_bring_b287 w1 (nI m) f).bind fun u11 => qf_Model_load_b180 u11 (nI m)) = some (a, w2) ∧ ∀ (Po : Option Value → zz_S → Prop) (Px : String → zz_S → Prop), (∀ u1, w2.1 0 = 0 → rr_Rel u1 w2 → Po (some (.int a)) u1) → (∀ u1, w2.1 0 = 2 → rr_Rel u1 w2 → Px "java/lang/IllegalStateException" u1) → ((U.1 9) = (-1 : Int32) → (zp_Loader_load_b81 Po Px U (some q))) ∧ (¬ (U.1 9) = (-1 : Int32) → (xw_b (zz_pi U q 9 1) fun v10 => xw_b (zf_Loader_execute U (v10 + (U.1 9)) (0 : Int32) (0 : Int32) (nI F)) fun u11 => xw_b (zf_Loader_judgeInit u11 (some q)) fun u12 => zp_Loader_load_b81 Po Px u12 (some q))) := fun f hf0 hf1 hf2 => by
        have ha := rr_aft hT hS hE hr k1 k2 (va_up (va_up w1.1 17 f) 18 (-1)) rfl rfl rfl ⟨hf0, f2.symm, q19.trans k3.symm, k4.symm, k5.symm⟩
        obtain ⟨w2, u5, o1, o2, o3, o4, o5, o6⟩ := out u2 f hf0 hf1 hf2 ha.1 ha.2
        refine ⟨0, w2, ?_, fun Po Px g0 g2 => ⟨fun h => absurd h c9, fun _ => zrun Po Px ⟨u5, ?_, bad81 Po Px o6 (g2 u5 o3 o4)⟩⟩⟩
        · unfold qf_Model_bring_b287
          rw [rr_wrong, rr_b2s, o1, Option.bind_some, o2]
        · have hh : ¬ u2.1 17 = 0 := fun z => hf2 (hf0.trans z)
          unfold zf_Loader_judgeInit
          rw [rr_hasF, rr_b2s, if_neg hh, if_neg (by decide), zf_Loader_judgeInit_b30, rr_hasF, rr_b2s, if_neg hh, if_neg (by decide), o5, Option.bind_some]
          rfl
      rw [if_pos rr_bif, q19]
      by_cases t0 : t = 0
      · rw [if_pos t0] at f1
        rw [if_pos (by rw [t0]; decide)]
        exact fin 9 f1.symm (by decide) (by decide)
      · rw [if_neg t0] at f1
        rw [if_neg (show ¬ nI t ≤ 0 from nI_ge (a := 0) (by omega) (by omega))]
        exact fin 8 f1.symm (by decide) (by decide)
    · obtain ⟨f1, f2⟩ := kt rfl
      have f2' : u2.1 18 = -1 := by rw [f2, ← hFr.2.1]; exact h18
      rw [if_neg (by decide)]
      by_cases c21 : w1.1 21 = 0
      · rw [if_pos c21]
        have ha := rr_aft hT hS hE hr k1 k2 (va_up w1.1 0 0) rfl rfl rfl ⟨q17.trans f1.symm, q18.trans f2'.symm, q19.trans k3.symm, k4.symm, k5.symm⟩
        have e310 : qf_Model_bring_b310 w1 (nI m) = some w1 := by
          unfold qf_Model_bring_b310
          rw [if_pos (by rw [q17]; decide)]
          rfl
        refine ⟨nI B, (va_up w1.1 0 0, w1.2), by rw [e310, Option.bind_some]; exact q180 w1.1 w1.2 q17 q8, fun Po Px g0 g2 => ⟨fun h => absurd h c9, fun _ => zrun Po Px ⟨u2, ?_, ok81 Po Px f1 (adr ha.2 q8) (g0 u2 rfl (rr_R0E ha.1 ha.2))⟩⟩⟩
        unfold zf_Loader_judgeInit
        rw [rr_hasF, rr_b2s, if_pos f1, if_pos rfl, if_pos (k5.trans c21), zf_Loader_judgeInit_b30, rr_hasF, rr_b2s, if_pos f1, if_pos rfl]
        rfl
      · rw [if_neg c21, rr_wrong, rr_b2s]
        have ha := rr_aft (u2 := rr_zb u2 10 (-1)) hT hS hE hr k1 (fun k a1 a2 a3 a4 a5 => by
          show va_up (va_up u2.1 17 10) 18 (-1) k = _
          rw [rr_upN _ _ a2, rr_upN _ _ a1, k2 k a1 a2 a3 a4 a5]) (va_up (va_up w1.1 17 10) 18 (-1)) rfl rfl rfl ⟨rfl, rfl, q19.trans k3.symm, k4.symm, k5.symm⟩
        obtain ⟨w2, u5, o1, o2, o3, o4, o5, o6⟩ := out (rr_zb u2 10 (-1)) 10 rfl (by decide) (by decide) ha.1 ha.2
        refine ⟨0, w2, by rw [o1, Option.bind_some, o2], fun Po Px g0 g2 => ⟨fun h => absurd h c9, fun _ => zrun Po Px ⟨u5, ?_, bad81 Po Px o6 (g2 u5 o3 o4)⟩⟩⟩
        have hh : ¬ (rr_zb u2 10 (-1)).1 17 = 0 := (by decide : ¬ (10 : Int32) = 0)
        unfold zf_Loader_judgeInit
        rw [rr_hasF, rr_b2s, if_pos f1, if_pos rfl, if_neg (fun z => c21 (k5.symm.trans z)), rr_blame, Option.bind_some, zf_Loader_judgeInit_b30, rr_hasF, rr_b2s, if_neg hh, if_neg (by decide), o5, Option.bind_some]
        rfl
