/-! THE MODEL, fourth part: the class's tests -/
def fm_smw (w : Nat → Int32) (k : Nat) : Bool := decide (fm_nb w k ≤ 32767)
theorem fm_few_f {B : Nat → Nat} (h0 : ¬ fm_WD B 0 < 2) (h2 : ¬ fm_WD B 2 ≤ 0) (h3 : ¬ fm_WD B 3 ≤ 0) (h4 : ¬ fm_WD B 4 ≤ 0) (h5 : ¬ fm_WD B 5 ≤ 0) (h8 : ¬ 256 < fm_WD B 8) : fm_few B = false := by
  unfold fm_few
  have ha : fm_all 4 (fm_nz B) = true := fm_all_iff.mpr (fun k hk => by
    unfold fm_nz
    rcases (show k = 0 ∨ k = 1 ∨ k = 2 ∨ k = 3 by omega) with rfl | rfl | rfl | rfl
    · exact decide_eq_true (show fm_WD B 2 ≠ 0 by omega)
    · exact decide_eq_true (show fm_WD B 3 ≠ 0 by omega)
    · exact decide_eq_true (show fm_WD B 4 ≠ 0 by omega)
    · exact decide_eq_true (show fm_WD B 5 ≠ 0 by omega))
  rw [ha, decide_eq_false h0, decide_eq_false h8]
  rfl
theorem fm_few_t {B : Nat → Nat} (h : fm_WD B 0 < 2 ∨ fm_WD B 2 ≤ 0 ∨ fm_WD B 3 ≤ 0 ∨ fm_WD B 4 ≤ 0 ∨ fm_WD B 5 ≤ 0 ∨ 256 < fm_WD B 8) : fm_few B = true := by
  cases hf : fm_few B with
  | true => rfl
  | false =>
    have h1 := fm_few_ne hf
    have a2 := h1 2 (by decide) (by decide)
    have a3 := h1 3 (by decide) (by decide)
    have a4 := h1 4 (by decide) (by decide)
    have a5 := h1 5 (by decide) (by decide)
    unfold fm_few at hf
    obtain ⟨hf1, -⟩ := Bool.or_eq_false_iff.mp hf
    obtain ⟨hf2, hf3⟩ := Bool.or_eq_false_iff.mp hf1
    have b1 := of_decide_eq_false hf2
    have b2 := of_decide_eq_false hf3
    omega
/-- the class's steps back -/
def fm_bk (B : Nat → Nat) (c : Nat) : Nat → Nat → Bool
  | 0, _ => false
  | n + 1, x => if fm_th B x = false ∨ fm_tag B x ≠ 2 then false else if fm_rest B x = c then true else fm_bk B c n (fm_rest B x)
theorem fm_bk_s {B : Nat → Nat} {c i x : Nat} (h : i < 256) : fm_bk B c (256 - i) x = if fm_th B x = false ∨ fm_tag B x ≠ 2 then false else if fm_rest B x = c then true else fm_bk B c (256 - (i + 1)) (fm_rest B x) := by
  rw [show 256 - i = (256 - (i + 1)) + 1 by omega]
  rfl
theorem fm_bk_lead (B : Nat → Nat) (c : Nat) : ∀ (n x : Nat), (!(if x = c then true else fm_bk B c n x)) = fm_lead B c (n + 1) x := by
  intro n
  induction n with
  | zero =>
    intro x
    unfold fm_lead fm_bk
    by_cases e : x = c
    · rw [if_pos e, if_pos e]; rfl
    · rw [if_neg e, if_neg e]
      unfold fm_lead
      split <;> rfl
  | succ n ih =>
    intro x
    unfold fm_lead
    by_cases e : x = c
    · rw [if_pos e, if_pos e]; rfl
    · rw [if_neg e, if_neg e]
      unfold fm_bk
      by_cases e2 : fm_th B x = false ∨ fm_tag B x ≠ 2
      · rw [if_pos e2, if_pos e2]; rfl
      · rw [if_neg e2, if_neg e2]
        exact ih (fm_rest B x)
theorem fm_bk_larger {B : Nat → Nat} {c : Nat} (h1 : fm_th B c = true) (h2 : fm_tag B c = 2) : (!fm_bk B c 256 c) = fm_lead B c 256 (fm_rest B c) := by
  rw [← fm_bk_lead B c 255 (fm_rest B c)]
  show (!(if fm_th B c = false ∨ fm_tag B c ≠ 2 then false else if fm_rest B c = c then true else fm_bk B c 255 (fm_rest B c))) = _
  rw [if_neg (fun z => z.elim (fun q => by rw [h1] at q; cases q) (fun q => q h2))]
theorem fm_th_ch {B : Nat → Nat} (hB : ∀ i, B i < 256) {x : Nat} (hx : x < 2 ^ 31) : fm_th B x = decide (fm_by (fm_ch B (nI x)) 0 ≠ 0) := by rw [← fm_thI_n hx, fm_thI_ch hB]
theorem fm_W0 {B : Nat → Nat} (hB : ∀ i, B i < 256) (p : Nat) : fm_W B p 0 = nI 0 ↔ fm_all 4 (fm_zb B p) = true := by
  have h0 := fm_by_W hB p 0 (show 0 < 4 by decide)
  have h1 := fm_by_W hB p 0 (show 1 < 4 by decide)
  have h2 := fm_by_W hB p 0 (show 2 < 4 by decide)
  have h3 := fm_by_W hB p 0 (show 3 < 4 by decide)
  constructor
  · intro h
    rw [h, show nI 0 = 0 from rfl, fm_by_0] at h0 h1 h2 h3
    refine fm_all_iff.mpr (fun k hk => decide_eq_true ?_)
    rcases (show k = 0 ∨ k = 1 ∨ k = 2 ∨ k = 3 by omega) with rfl | rfl | rfl | rfl
    · exact h0.symm
    · exact h1.symm
    · exact h2.symm
    · exact h3.symm
  · intro h
    have a0 : fm_AT B p 0 0 = 0 := of_decide_eq_true (fm_all_iff.mp h 0 (by decide))
    have a1 : fm_AT B p 0 1 = 0 := of_decide_eq_true (fm_all_iff.mp h 1 (by decide))
    have a2 : fm_AT B p 0 2 = 0 := of_decide_eq_true (fm_all_iff.mp h 2 (by decide))
    have a3 : fm_AT B p 0 3 = 0 := of_decide_eq_true (fm_all_iff.mp h 3 (by decide))
    unfold fm_W fm_WO
    unfold fm_AT at a0 a1 a2 a3
    rw [Nat.add_zero] at a0
    rw [a0, a1, a2, a3]
theorem fm_fracs01 {B : Nat → Nat} {p : Nat} (h0 : fm_AT B p 0 0 = 0) : fm_fracs B p 0 = fm_fracs B p 1 := by
  refine fm_all_congr (fun k _ => ?_)
  unfold fm_fr fm_frac
  by_cases e : k = 0
  · subst e
    simp [h0]
  · rw [decide_eq_false (show ¬ k < 0 by omega), decide_eq_false (show ¬ k < 1 by omega)]
theorem fm_tab_t {B : Nat → Nat} (hB : ∀ i, B i < 256) {j : Nat} (h : fm_W B (j + 2) 0 = nI 0) (h2 : fm_fracs B (j + 2) 1 = true) : fm_tab1 B j = true := by
  have h3 := (fm_W0 hB (j + 2)).mp h
  unfold fm_tab1
  rw [fm_fracs01 (of_decide_eq_true (fm_all_iff.mp h3 0 (by decide))), h2, h3]
  rfl
theorem fm_tab_f1 {B : Nat → Nat} (hB : ∀ i, B i < 256) {j : Nat} (h : ¬ fm_W B (j + 2) 0 = nI 0) : fm_tab1 B j = false := by
  unfold fm_tab1
  cases h2 : fm_all 4 (fm_zb B (j + 2)) with
  | true => exact absurd ((fm_W0 hB (j + 2)).mpr h2) h
  | false => rw [Bool.and_false]
theorem fm_tab_f2 {B : Nat → Nat} (hB : ∀ i, B i < 256) {j : Nat} (h : fm_W B (j + 2) 0 = nI 0) (h2 : fm_fracs B (j + 2) 1 = false) : fm_tab1 B j = false := by
  have h3 := (fm_W0 hB (j + 2)).mp h
  unfold fm_tab1
  rw [fm_fracs01 (of_decide_eq_true (fm_all_iff.mp h3 0 (by decide))), h2]
  rfl
def fm_way (B : Nat → Nat) (k : Nat) : Bool := if 128 < fm_AT B 6 k 0 then decide (fm_FAR B k < fm_WD B 6) else fm_w3 B k
def fm_sayh (B : Nat → Nat) (k : Nat) : Bool := if 128 < fm_AT B 6 k 0 then true else fm_w1 B k && fm_w2 B k
theorem fm_word1_ws (B : Nat → Nat) (k : Nat) : fm_word1 B k = (fm_way B k && fm_sayh B k) := by
  unfold fm_word1 fm_way fm_sayh
  split
  · rw [Bool.and_true]
  · rw [Bool.and_comm]
/-- faults 1 to 4; faults 5 to 11 -/
def fm_f4 (B : Nat → Nat) (n : Nat) : Nat := if fm_small B n = false then 1 else if fm_HF B 3 + 1 < fm_HF B 2 ∨ 255 < fm_HF B 3 then 2 else if fm_few B = true then 3 else if fm_HF B 0 ≠ fm_ST B 10 ∨ n ≠ 4 * fm_HF B 0 then 4 else 0
def fm_parts (B : Nat → Nat) : Nat := if nI (fm_WO B 7) < nI 1048576 then 5
  else if fm_all (fm_WD B 1) (fm_size1 B) = false then 6
  else if fm_all (fm_WD B 1) (fun k => fm_tag1 B (fm_HF B 2 + k)) = false then 7
  else if fm_tables B = false then 8
  else if fm_all (fm_WD B 6) (fm_word1 B) = false then 9
  else if fm_all (fm_WD B 8) (fm_recipe1 B) = false then 10
  else if fm_fracs B 9 1 = true then 0 else 11
theorem fm_fault_eq (B : Nat → Nat) (n : Nat) : fm_fault B n = if fm_f4 B n = 0 then fm_parts B else fm_f4 B n := by
  unfold fm_fault fm_f4 fm_parts
  by_cases e1 : fm_small B n = false
  · rw [if_pos e1, if_pos e1, if_neg (by decide)]
  · rw [if_neg e1, if_neg e1]
    by_cases e2 : fm_HF B 3 + 1 < fm_HF B 2 ∨ 255 < fm_HF B 3
    · rw [if_pos e2, if_pos e2, if_neg (by decide)]
    · rw [if_neg e2, if_neg e2]
      by_cases e3 : fm_few B = true
      · rw [if_pos e3, if_pos e3, if_neg (by decide)]
      · rw [if_neg e3, if_neg e3]
        by_cases e4 : fm_HF B 0 ≠ fm_ST B 10 ∨ n ≠ 4 * fm_HF B 0
        · rw [if_pos e4, if_pos e4, if_neg (by decide)]
        · rw [if_neg e4, if_neg e4, if_pos rfl]
theorem fm_f4_0 {B : Nat → Nat} {n : Nat} (hB : ∀ i, B i < 256) (hn : n ≤ 8192) (h : fm_f4 B n = 0) : fm_Len B ∧ fm_few B = false ∧ n = 4 * fm_ST B 10 := by
  unfold fm_f4 at h
  by_cases e1 : fm_small B n = false
  · rw [if_pos e1] at h; cases h
  · rw [if_neg e1] at h
    by_cases e2 : fm_HF B 3 + 1 < fm_HF B 2 ∨ 255 < fm_HF B 3
    · rw [if_pos e2] at h; cases h
    · rw [if_neg e2] at h
      by_cases e3 : fm_few B = true
      · rw [if_pos e3] at h; cases h
      · rw [if_neg e3] at h
        by_cases e4 : fm_HF B 0 ≠ fm_ST B 10 ∨ n ≠ 4 * fm_HF B 0
        · rw [if_pos e4] at h; cases h
        · exact ⟨⟨hB, by omega, by omega, by omega⟩, by simpa using e3, by omega⟩
theorem fm_parts_0 {B : Nat → Nat} (hL : fm_Len B) (hf : fm_few B = false) (h : fm_parts B = 0) : fm_V B := by
  unfold fm_parts at h
  by_cases e1 : nI (fm_WO B 7) < nI 1048576
  · rw [if_pos e1] at h; cases h
  · rw [if_neg e1] at h
    cases e2 : fm_all (fm_WD B 1) (fm_size1 B) with
    | false => rw [if_pos e2] at h; cases h
    | true =>
      rw [if_neg (by rw [e2]; decide)] at h
      cases e3 : fm_all (fm_WD B 1) (fun k => fm_tag1 B (fm_HF B 2 + k)) with
      | false => rw [if_pos e3] at h; cases h
      | true =>
        rw [if_neg (by rw [e3]; decide)] at h
        cases e4 : fm_tables B with
        | false => rw [if_pos e4] at h; cases h
        | true =>
          rw [if_neg (by rw [e4]; decide)] at h
          cases e5 : fm_all (fm_WD B 6) (fm_word1 B) with
          | false => rw [if_pos e5] at h; cases h
          | true =>
            rw [if_neg (by rw [e5]; decide)] at h
            cases e6 : fm_all (fm_WD B 8) (fm_recipe1 B) with
            | false => rw [if_pos e6] at h; cases h
            | true =>
              rw [if_neg (by rw [e6]; decide)] at h
              cases e7 : fm_fracs B 9 1 with
              | false => rw [if_neg (by rw [e7]; decide)] at h; cases h
              | true => exact ⟨hL, hf, e1, e2, e3, e4, e5, e6, e7⟩
