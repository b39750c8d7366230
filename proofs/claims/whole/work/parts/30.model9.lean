/-! THE MODEL, ninth part -/
theorem fm_ep_m1 {B : Nat → Nat} (hB : ∀ i, B i < 256) : fm_ep B = -1 ↔ fm_ep B < 0 := by
  unfold fm_ep
  have h := fm_FAR_lt hB (fm_WD B 6 - 1)
  split
  · constructor
    · intro z
      exact absurd (show nI (fm_FAR B (fm_WD B 6 - 1)) < 0 by rw [z]; decide) (nI_pos (by omega))
    · intro z
      exact absurd z (nI_pos (by omega))
  · exact ⟨fun _ => by decide, fun _ => rfl⟩
/-- a word by its bytes -/
theorem fm_wordOf {x : Int32} {B : Nat → Nat} (hB : ∀ i, B i < 256) {i : Nat} (h : ∀ j, j < 4 → fm_by x j = B (4 * i + j)) : x = nI (fm_WO B i) := by
  apply fm_tn_inj
  rw [fm_tn_nI (fm_WO_lt hB i)]
  have h0 := h 0 (by decide)
  have h1 := h 1 (by decide)
  have h2 := h 2 (by decide)
  have h3 := h 3 (by decide)
  have hx := fm_tn_lt x
  unfold fm_by at h0 h1 h2 h3
  unfold fm_WO
  simp only [Nat.reducePow, Nat.reduceMul, Nat.reduceSub, Nat.add_zero] at h0 h1 h2 h3
  omega
/-- the class's file: its bytes are B's, as far as it goes -/
def fm_Fl (b : Nat → Int32) (B : Nat → Nat) (n : Nat) : Prop := ∀ i, i < n → fm_by (b (i / 4)) (i % 4) = B i
theorem fm_Fl_word {b : Nat → Int32} {B : Nat → Nat} {n : Nat} (hB : ∀ i, B i < 256) (h : fm_Fl b B n) {i : Nat} (hi : 4 * i + 4 ≤ n) : b i = nI (fm_WO B i) := by
  refine fm_wordOf hB (fun j hj => ?_)
  have h1 := h (4 * i + j) (by omega)
  rw [show (4 * i + j) / 4 = i by omega, show (4 * i + j) % 4 = j by omega] at h1
  exact h1
