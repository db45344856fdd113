/-! call -/
def rr_zc (u : zz_S) : zz_S := (va_up (va_up (va_up (va_up (va_up u.1 17 0) 18 (-1)) 19 0) 20 0) 21 0, u.2)
def rr_qc (w : qm_S) : qm_S := (va_up (va_up (va_up (va_up (va_up w.1 17 0) 18 (-1)) 19 0) 20 0) 21 0, w.2)
theorem rr_clear (u : zz_S) : zf_Report_clear u = some (rr_zc u) := rfl
theorem rr_fresh (w : qm_S) : qf_Model_fresh w = some (rr_qc w) := rfl
theorem rr_fuN {d : Int32} (h : rr_fuB d = true) : ¬ d < 0 ∧ d ≤ 2000 ∧ ∃ F, F ≤ 2000 ∧ d = nI F := by
  simp only [rr_fuB, Bool.and_eq_true, Bool.not_eq_true', decide_eq_false_iff_not, decide_eq_true_eq] at h
  exact ⟨h.1, h.2, nI_of2 (M := 2000) (n := 2000) (by decide) h.1 h.2⟩
/-- the relation behind a run; y the reference's numbers as it leaves them -/
theorem rr_after {u u1 u2 : zz_S} {w w1 : qm_S} {t : Nat} {b1 : Bool} (hT : rr_T u w) (hS : rr_S u w) {φ : Nat → Nat} {ms : List Nat} {S : Nat} {r Z G : Nat → Nat} (hE : rr_E u w φ ms S r Z G) (hr : rr_ran u u1 w w1 b1 t) (h2 : u2.2 = u1.2) (hk : ∀ k, k ≠ 17 → k ≠ 18 → k ≠ 19 → k ≠ 20 → k ≠ 21 → u2.1 k = u1.1 k) (y : Nat → Int32) (y2 : y 2 = w1.1 2) (y3 : y 3 = w1.1 3) (y15 : y 15 = w1.1 15) (hF : y 17 = u2.1 17 ∧ y 18 = u2.1 18 ∧ y 19 = u2.1 19 ∧ y 20 = u2.1 20 ∧ y 21 = u2.1 21) : rr_Rel u2 (y, w1.2) := by
  obtain ⟨fz, fq, hP, h0, -⟩ := hr
  have k0 : ∀ k, k ≠ 17 → k ≠ 18 → k ≠ 19 → k ≠ 20 → k ≠ 21 → k ≠ 1 → k ≠ 2 → k ≠ 3 → u2.1 k = u.1 k := fun k a1 a2 a3 a4 a5 a6 a7 a8 => (hk k a1 a2 a3 a4 a5).trans (fz.1 k a6 a7 a8)
  have q2 : w1.1 2 = w.1 2 := fq.1 2 (by decide) (by decide) (by decide) (by decide)
  have q3 : w1.1 3 = w.1 3 := fq.1 3 (by decide) (by decide) (by decide) (by decide)
  have q15 : w1.1 15 = w.1 15 := fq.1 15 (by decide) (by decide) (by decide) (by decide)
  have z0 := k0 0 (by decide) (by decide) (by decide) (by decide) (by decide) (by decide) (by decide) (by decide)
  have z4 := k0 4 (by decide) (by decide) (by decide) (by decide) (by decide) (by decide) (by decide) (by decide)
  have z15 := k0 15 (by decide) (by decide) (by decide) (by decide) (by decide) (by decide) (by decide) (by decide)
  have z16 := k0 16 (by decide) (by decide) (by decide) (by decide) (by decide) (by decide) (by decide) (by decide)
  refine ⟨?_, ⟨fun k hk2 => ?_, ?_⟩, hF, ?_, ⟨?_, by rw [z0]; exact hS.2⟩, φ, ms, S, r, Z, G, rr_Et hE z0 z15 z16 (by rw [h2]; exact fz.2.1) (by rw [h2]; exact fz.2.2.2) (y3.trans q3) fq.2⟩
  · intro i hi
    rw [h2]
    exact hP.1 i hi
  · rw [h2]
    by_cases e : k = 0
    · subst e
      exact h0.trans hP.2.2.symm
    · exact hP.2.1 k (by omega) hk2
  · rw [h2]; exact hP.2.2
  · obtain ⟨n, n1, n2, n3, n4⟩ := hT
    refine ⟨n, n1, z4.trans n2, y15.trans (q15.trans n3), ?_⟩
    rw [h2, fz.2.2.1, show ((y, w1.2) : qm_S).2 13 = w.2 13 from fq.2 13 (by decide) (by decide)]
    exact n4
  · rw [z0]
    exact y2.trans (q2.trans hS.1)
