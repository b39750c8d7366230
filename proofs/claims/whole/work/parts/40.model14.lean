/-! THE MODEL, fourteenth part: loading -/
theorem fm_min64 {rn : Nat} (h : rn ≤ 64) : (if nI 64 < nI rn then nI 64 else nI rn) = nI rn := by
  rw [if_neg (fun z => by have := (nI_ltI (by decide) (by omega)).mp z; omega)]
theorem fm_design {B : Nat → Nat} (hB : ∀ i, B i < 256) (h : ¬ nI (fm_WO B 7) < nI 1048576) : fm_WO B 7 < 2147483648 ∧ 1048576 ≤ fm_WO B 7 ∧ nI (fm_WO B 7) >>> (nI 4 &&& 31) = nI (fm_WO B 7 / 16) := by
  obtain ⟨m, hm, hm2, he⟩ := fm_ge (show 1048576 < 2 ^ 31 by decide) h
  have h1 := congrArg fm_tn he
  rw [fm_tn_nI (fm_WO_lt hB 7), fm_tn_nI (by omega)] at h1
  refine ⟨by omega, by omega, ?_⟩
  exact pk_shrN (by omega) (nI 4 &&& 31) 4 (by decide)
/-- the size that a font is loaded at -/
def fm_s1 (B : Nat → Nat) (a : Nat) : Nat := if a = 0 then fm_WO B 7 / 16 else a
theorem fm_cp_in {f g : Nat → Int32} {n j : Nat} (h : j < n) : fm_cp f g n j = f j := by unfold fm_cp; rw [if_pos h]
theorem fm_tk_FO {b w st ln : Nat → Int32} {B : Nat → Nat} {n : Nat} (hn : n ≤ 8192) (hL : fm_Len B) (he : n = 4 * fm_ST B 10) (hF : fm_Fl b B n) : fm_FO B (fm_tk b w) (fm_cp (fm_sI (fm_tk b w)) st 10) (fm_cp (fm_ln (fm_tk b w)) ln 10) ∧ fm_nb (fm_tk b w) 2 = fm_HF B 2 ∧ fm_nb (fm_tk b w) 3 = fm_HF B 3 := by
  have hB := hL.1
  have h6 : 6 ≤ fm_ST B 10 := fm_ST_mono (p := 0) (q := 10) (by decide)
  have hw : ∀ i, i < fm_ST B 10 → fm_tk b w i = nI (fm_WO B i) := fun i hi => by rw [fm_tk_in b w (by omega)]; exact fm_Fl_word hB hF (by omega)
  have hnb := fm_nb_HF (w := fm_tk b w) hB (fun i hi => hw i (by omega))
  refine ⟨⟨hL, hw, fun p hp => ?_, fun p hp => ?_⟩, hnb 2 (by decide), hnb 3 (by decide)⟩
  · rw [fm_cp_in hp]; exact fm_sI_ST hnb hL.2.1 p (by omega)
  · rw [fm_cp_in hp]; exact fm_ln_WD hnb hp (fun _ => hL.2.1)
theorem fm_tk_nb {b w : Nat → Int32} {B : Nat → Nat} {n : Nat} (hB : ∀ i, B i < 256) (hF : fm_Fl b B n) (h24 : 24 ≤ n) : ∀ i, i < 12 → fm_nb (fm_tk b w) i = fm_HF B i :=
  fm_nb_HF hB (fun i hi => by rw [fm_tk_in b w (by omega)]; exact fm_Fl_word hB hF (by omega))
theorem fm_f4_lt (B : Nat → Nat) (n : Nat) : fm_f4 B n < 5 := by
  unfold fm_f4
  repeat' split
  all_goals omega
theorem fm_parts_lt (B : Nat → Nat) : fm_parts B < 12 := by
  unfold fm_parts
  repeat' split
  all_goals omega
theorem fm_fault_lt (B : Nat → Nat) (n : Nat) : fm_fault B n < 12 := by
  have h1 := fm_f4_lt B n
  have h2 := fm_parts_lt B
  rw [fm_fault_eq]
  split <;> omega
