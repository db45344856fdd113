/-! the relation between the class's picture and the reference's -/
def rr_M (u : zz_S) (w : qm_S) : Prop := ∀ a, a < 4096 → w.2 1 a = rr_by (u.2.1 0 (a / 4)) (a % 4)
def rr_R (u : zz_S) (w : qm_S) : Prop := (∀ k, k < 32 → w.2 14 k = u.2.1 2 k) ∧ u.2.1 2 0 = 0
def rr_F (u : zz_S) (w : qm_S) : Prop := w.1 17 = u.1 17 ∧ w.1 18 = u.1 18 ∧ w.1 19 = u.1 19 ∧ w.1 20 = u.1 20 ∧ w.1 21 = u.1 21
def rr_T (u : zz_S) (w : qm_S) : Prop := ∃ n, n ≤ 1200 ∧ u.1 4 = nI n ∧ w.1 15 = nI n ∧ (∀ a, a < n → w.2 13 a = rr_by (u.2.1 3 (a / 4)) (a % 4)) ∧ ∀ j, n % 4 ≠ 0 → n % 4 ≤ j → j < 4 → rr_by (u.2.1 3 (n / 4)) j = 0
def rr_S (u : zz_S) (w : qm_S) : Prop := w.1 2 = u.1 0 ∧ (u.1 0 = 0 ∨ u.1 0 = 1)
/-- the guarded words; ms the live modules' numbers, r their first rows, G their guarded bytes -/
def rr_G (u : zz_S) (ms : List Nat) (r G : Nat → Nat) : Prop := ∀ i, i < 1024 → (u.2.1 1 i = 0 ∨ u.2.1 1 i = 1) ∧ (u.2.1 1 i = 1 ↔ (i < 128 ∧ u.1 0 = 1) ∨ ∃ m ∈ ms, 512 + 16 * r m ≤ 4 * i ∧ 4 * i < 512 + 16 * r m + G m)
def rr_rows (z : Nat) : Nat := (z + 15) / 16
/-- where the modules lie -/
def rr_L (w : qm_S) (ms : List Nat) (r Z G : Nat → Nat) : Prop :=
  (∀ m, m ∈ ms ↔ m < 12 ∧ w.2 6 m = 1) ∧ (∀ m, m < 12 → w.2 6 m = 0 ∨ w.2 6 m = 1) ∧ ms.Pairwise (fun a b => r a + rr_rows (Z a) ≤ r b) ∧
  ∀ m ∈ ms, r m + rr_rows (Z m) ≤ 208 ∧ 4 ≤ Z m ∧ Z m ≤ 512 ∧ Z m % 4 = 0 ∧ G m ≤ Z m ∧ G m % 4 = 0 ∧ w.2 8 m = nI (512 + 16 * r m) ∧ w.2 9 m = nI (Z m) ∧ w.2 10 m = nI (G m)
/-- who needs whom -/
def rr_N (w : qm_S) (ms : List Nat) : Prop := ∀ k, k < 12 → ∀ m, m < 12 → (w.2 12 (12 * k + m) = 0 ∨ w.2 12 (12 * k + m) = 1) ∧ (w.2 12 (12 * k + m) = 1 → k ∈ ms ∧ m ∈ ms ∧ k ≠ m)
/-- how many of the first S symbols are of module m -/
def rr_cnt (w : qm_S) (S m : Nat) : Nat := ((List.range S).filter (fun k => decide (w.2 5 k = nI m))).length
/-- the module's object: fi the places of the objects, φ which object it is -/
def rr_O (u : zz_S) (w : qm_S) (φ : Nat → Nat) (S : Nat) (r Z : Nat → Nat) (m : Nat) : Prop :=
  φ m ∈ u.2.2.2.1.1 ∧ ∃ (nd : Nat) (ns : List Nat), u.2.2.2.1.2 (φ m) = (9, [.int (w.2 7 m), .int (w.2 8 m), .int (w.2 9 m), .int (nI (rr_cnt w S m)), .int (w.2 11 m), .int (w.2 10 m), .int (nI (r m)), .int (nI (r m + rr_rows (Z m))), .ref nd, .int (nI ns.length)]) ∧ nd ∈ u.2.2.2.2.1 ∧ ns.Nodup ∧ ns.length ≤ 8 ∧ (∀ k, k ∈ ns ↔ k < 12 ∧ w.2 12 (12 * m + k) = 1) ∧ ∀ j (h : j < ns.length), u.2.2.2.2.2 nd j = some (φ ns[j])
/-- the table of modules and their objects -/
def rr_D (u : zz_S) (w : qm_S) (φ : Nat → Nat) (ms : List Nat) (S : Nat) (r Z : Nat → Nat) : Prop :=
  u.1 16 = nI ms.length ∧ (∀ k (h : k < ms.length), u.2.2.1 1 k = some (φ ms[k])) ∧ (∀ a ∈ ms, ∀ b ∈ ms, φ a = φ b → a = b) ∧ (∀ a ∈ ms, ∀ b ∈ ms, w.2 7 a = w.2 7 b → a = b) ∧ ∀ m ∈ ms, rr_O u w φ S r Z m
/-- one symbol -/
def rr_Y (u : zz_S) (w : qm_S) (φ : Nat → Nat) (ms : List Nat) (k : Nat) : Prop :=
  ∃ (q : Nat) (ow : Option Nat), u.2.2.1 0 k = some q ∧ q ∈ u.2.2.2.1.1 ∧ u.2.2.2.1.2 q = (7, [.int (w.2 2 k), .int (w.2 3 k), .int (w.2 4 k), va_rf ow]) ∧ ((w.2 5 k = -1 ∧ ow = none) ∨ ∃ m ∈ ms, w.2 5 k = nI m ∧ ow = some (φ m))
def rr_B (u : zz_S) (w : qm_S) (φ : Nat → Nat) (ms : List Nat) (S : Nat) : Prop := S ≤ 40 ∧ u.1 15 = nI S ∧ w.1 3 = nI S ∧ ∀ k, k < S → rr_Y u w φ ms k
def rr_E (u : zz_S) (w : qm_S) (φ : Nat → Nat) (ms : List Nat) (S : Nat) (r Z G : Nat → Nat) : Prop :=
  rr_G u ms r G ∧ rr_L w ms r Z G ∧ rr_N w ms ∧ rr_D u w φ ms S r Z ∧ rr_B u w φ ms S
def rr_Rel (u : zz_S) (w : qm_S) : Prop := rr_M u w ∧ rr_R u w ∧ rr_F u w ∧ rr_T u w ∧ rr_S u w ∧ ∃ (φ : Nat → Nat) (ms : List Nat) (S : Nat) (r Z G : Nat → Nat), rr_E u w φ ms S r Z G
theorem rr_by00 (j : Nat) (h : j < 4) : rr_by 0 j = 0 := by
  match j, h with
  | 0, _ => rfl
  | 1, _ => rfl
  | 2, _ => rfl
  | 3, _ => rfl
  | n + 4, h => exact absurd h (by omega)
theorem rr_init : rr_Rel ll_u0 ll_w0 := by
  refine ⟨fun a h => (rr_by00 _ (Nat.mod_lt _ (by decide))).symm, ⟨fun k h => rfl, rfl⟩, ⟨rfl, rfl, rfl, rfl, rfl⟩, ⟨0, by decide, rfl, rfl, fun a h => absurd h (by omega), fun j h => absurd rfl h⟩, ⟨rfl, Or.inl rfl⟩, fun _ => 0, [], 0, fun _ => 0, fun _ => 0, fun _ => 0, ?_, ?_, ?_, ?_, ?_⟩
  · intro i h
    exact ⟨Or.inl rfl, fun h => absurd h (show ¬ ((0 : Int32) = 1) by decide), fun h => by
      rcases h with ⟨-, h⟩ | ⟨m, h, -⟩
      · exact absurd h (show ¬ ((0 : Int32) = 1) by decide)
      · simp at h⟩
  · refine ⟨fun m => ⟨fun h => by simp at h, fun h => absurd h.2 (show ¬ ((0 : Int32) = 1) by decide)⟩, fun m _ => Or.inl rfl, List.Pairwise.nil, fun m h => by simp at h⟩
  · intro k _ m _
    exact ⟨Or.inl rfl, fun h => absurd h (show ¬ ((0 : Int32) = 1) by decide)⟩
  · exact ⟨rfl, fun k h => absurd h (by simp), fun a h => by simp at h, fun a h => by simp at h, fun m h => by simp at h⟩
  · exact ⟨by decide, rfl, rfl, fun k h => absurd h (by omega)⟩
/-- the reference's word that says what was thrown is none of the relation's -/
theorem rr_thrown {u : zz_S} {w : qm_S} (x : Int32) (h : rr_Rel u w) : rr_Rel u (va_up w.1 0 x, w.2) := h
theorem rs_fault : ll_s_fault rr_Rel := by
  intro u w a h
  have h' := rr_thrown 0 h
  obtain ⟨-, -, ⟨f1, f2, f3, f4, f5⟩, -⟩ := h
  unfold zf_Loader_fault qf_Model_fault
  simp only [xx_nm]
  by_cases h0 : a = 0
  · simp only [h0, if_true]; exact ⟨_, _, _, rfl, congrArg (fun z => some (z, _)) f1, h'⟩
  by_cases h1 : a = 1
  · simp only [h0, h1, if_true, if_false]; exact ⟨_, _, _, rfl, congrArg (fun z => some (z, _)) f2, h'⟩
  by_cases h2 : a = 2
  · simp only [h0, h1, h2, if_true, if_false]; exact ⟨_, _, _, rfl, congrArg (fun z => some (z, _)) f3, h'⟩
  by_cases h3 : a = 3
  · simp only [h0, h1, h2, h3, if_true, if_false]; exact ⟨_, _, _, rfl, congrArg (fun z => some (z, _)) f4, h'⟩
  by_cases h4 : a = 4
  · simp only [h0, h1, h2, h3, h4, if_true, if_false]; exact ⟨_, _, _, rfl, congrArg (fun z => some (z, _)) f5, h'⟩
  simp only [h0, h1, h2, h3, h4, if_false]
  exact ⟨_, _, _, rfl, rfl, h'⟩
