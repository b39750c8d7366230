/-! THE MODEL, second part: scaling; programs -/
/-- how often a size is halved -/
def fm_h (s : Nat) : Nat := if s < 8388608 then 0 else if s < 16777216 then 1 else if s < 33554432 then 2 else if s < 67108864 then 3 else 4
def fm_z (s : Nat) : Nat := s / 2 ^ fm_h s
theorem fm_h_le (s : Nat) : fm_h s ≤ 4 := by
  unfold fm_h
  repeat' split
  all_goals omega
theorem fm_h_iff {s i : Nat} (hs : s < 134217728) (hi : i ≤ fm_h s) : s / 2 ^ i < 8388608 ↔ i = fm_h s := by
  have h4 := fm_h_le s
  unfold fm_h at *
  rcases (show i = 0 ∨ i = 1 ∨ i = 2 ∨ i = 3 ∨ i = 4 by omega) with rfl | rfl | rfl | rfl | rfl <;> simp only [Nat.reducePow] at * <;> (repeat' split at *) <;> omega
theorem fm_h_half (s i : Nat) : s / 2 ^ i / 2 = s / 2 ^ (i + 1) := by
  rw [Nat.div_div_eq_div_mul, Nat.pow_succ]
theorem fm_lcmp {x y : Int64} : lg_cmp x y < 0 ↔ x < y := by
  rw [← Int32.not_le, lg_cmp_ge, Int64.not_le]
def fm_num (B : Nat → Nat) (p k : Nat) : Nat := 65536 * fm_AT B p k 1 + 256 * fm_AT B p k 2 + fm_AT B p k 3
theorem fm_num_lt {B : Nat → Nat} (hB : ∀ i, B i < 256) (p k : Nat) : fm_num B p k < 16777216 := by
  have h1 := fm_AT_lt hB p k 1
  have h2 := fm_AT_lt hB p k 2
  have h3 := fm_AT_lt hB p k 3
  unfold fm_num
  omega
/-- a word scaled by the size s -/
def fm_sc (B : Nat → Nat) (s p k : Nat) : Int32 :=
  if fm_AT B p k 0 = 255 then (lN (fm_num B p k * fm_z s) >>> ((nI (20 - fm_h s)).toInt64 &&& 63) - (lN (fm_z s) <<< ((nI (4 + fm_h s)).toInt64 &&& 63))).toInt32
  else (lN (fm_num B p k * fm_z s) >>> ((nI (20 - fm_h s)).toInt64 &&& 63)).toInt32
def fm_oI (o : Option Nat) : Int32 := match o with
  | none => -1
  | some k => nI k
def fm_ego (B : Nat → Nat) : Option Nat := if 0 < fm_WD B 6 ∧ fm_AT B 6 0 0 = 255 then some (fm_AT B 6 0 1) else none
def fm_epo (B : Nat → Nat) : Option Nat := if 0 < fm_WD B 6 ∧ fm_AT B 6 (fm_WD B 6 - 1) 0 = 255 then some (fm_FAR B (fm_WD B 6 - 1)) else none
theorem fm_eg_o (B : Nat → Nat) : fm_eg B = fm_oI (fm_ego B) := by
  unfold fm_eg fm_ego
  split <;> rfl
theorem fm_ep_o (B : Nat → Nat) : fm_ep B = fm_oI (fm_epo B) := by
  unfold fm_ep fm_epo
  split <;> rfl
/-- where x's program begins, as its tag or the last word says -/
def fm_so (B : Nat → Nat) (x : Nat) : Option Nat := if x = 256 then fm_epo B else if fm_tag B x = 1 then some (fm_rest B x) else none
def fm_no (B : Nat → Nat) (r : Nat) : Option Nat := if r = 256 then fm_ego B else some r
def fm_seek (B : Nat → Nat) (nx : Nat) : Nat → Nat → Option Nat
  | 0, _ => none
  | n + 1, k => if 128 < fm_AT B 6 k 0 then none else if fm_AT B 6 k 1 = nx then some k else if fm_AT B 6 k 0 = 128 then none else fm_seek B nx n (k + fm_AT B 6 k 0 + 1)
/-- a program that begins elsewhere -/
def fm_at0 (B : Nat → Nat) (k : Nat) : Nat := if 128 < fm_AT B 6 k 0 then fm_FAR B k else k
/-- the word that x's program finds, asked for r -/
def fm_fd (B : Nat → Nat) (x r : Nat) : Option Nat := match fm_so B x, fm_no B r with
  | some k, some nx => fm_seek B nx (fm_WD B 6 - fm_at0 B k) (fm_at0 B k)
  | _, _ => none
/-- what it says -/
def fm_say (B : Nat → Nat) (x r : Nat) : Int32 := fm_oI ((fm_fd B x r).map (fm_FAR B))
/-- all tests passed -/
def fm_V (B : Nat → Nat) : Prop := fm_Len B ∧ fm_few B = false ∧ ¬ nI (fm_WO B 7) < nI 1048576 ∧ fm_all (fm_WD B 1) (fm_size1 B) = true ∧ fm_all (fm_WD B 1) (fun k => fm_tag1 B (fm_HF B 2 + k)) = true ∧ fm_tables B = true ∧ fm_all (fm_WD B 6) (fm_word1 B) = true ∧ fm_all (fm_WD B 8) (fm_recipe1 B) = true ∧ fm_fracs B 9 1 = true
theorem fm_V_tag {B : Nat → Nat} (h : fm_V B) {c : Nat} (hc : fm_th B c = true) : (fm_tag B c = 1 → fm_rest B c < fm_WD B 6) ∧ (fm_tag B c = 3 → fm_rest B c < fm_WD B 8) := by
  obtain ⟨hL, -, -, -, h5, -⟩ := h
  obtain ⟨h1, h2, -⟩ := fm_th_in hc
  have h6 := fm_all_iff.mp h5 (c - fm_HF B 2) (by rw [fm_WD1]; omega)
  have h6 : fm_tag1 B (fm_HF B 2 + (c - fm_HF B 2)) = true := h6
  rw [show fm_HF B 2 + (c - fm_HF B 2) = c by omega] at h6
  unfold fm_tag1 at h6
  rw [hc] at h6
  simp only [Bool.not_true, Bool.false_or, Bool.and_eq_true, Bool.or_eq_true, decide_eq_true_eq] at h6
  exact ⟨fun e => h6.1.1.resolve_left (fun z => z e), fun e => h6.1.2.resolve_left (fun z => z e)⟩
theorem fm_V_word {B : Nat → Nat} (h : fm_V B) {k : Nat} (hk : k < fm_WD B 6) : fm_word1 B k = true := fm_all_iff.mp h.2.2.2.2.2.2.1 k hk
theorem fm_V_far {B : Nat → Nat} (h : fm_V B) {k : Nat} (hk : k < fm_WD B 6) (h1 : 128 < fm_AT B 6 k 0) : fm_FAR B k < fm_WD B 6 := by
  have h2 := fm_V_word h hk
  rw [fm_word1, if_pos h1] at h2
  exact of_decide_eq_true h2
theorem fm_V_next {B : Nat → Nat} (h : fm_V B) {k : Nat} (hk : k < fm_WD B 6) (h1 : fm_AT B 6 k 0 < 128) : k + fm_AT B 6 k 0 + 1 < fm_WD B 6 := by
  have h2 := fm_V_word h hk
  rw [fm_word1, if_neg (by omega), Bool.and_eq_true] at h2
  have h3 := h2.2
  unfold fm_w3 at h3
  simp only [Bool.or_eq_true, decide_eq_true_eq] at h3
  omega
theorem fm_V_at0 {B : Nat → Nat} (h : fm_V B) {k : Nat} (hk : k < fm_WD B 6) : fm_at0 B k < fm_WD B 6 := by
  unfold fm_at0
  split
  · exact fm_V_far h hk (by assumption)
  · exact hk
theorem fm_V_so {B : Nat → Nat} (h : fm_V B) {x k : Nat} (hx : x = 256 ∨ fm_th B x = true) (hk : fm_so B x = some k) : k < fm_WD B 6 := by
  unfold fm_so at hk
  split at hk
  · unfold fm_epo at hk
    split at hk
    · rename_i h0
      cases hk
      exact fm_V_far h (by omega) (by omega)
    · cases hk
  · split at hk
    · cases hk
      exact (fm_V_tag h (hx.resolve_left (by assumption))).1 (by assumption)
    · cases hk
theorem fm_seek_fuel {B : Nat → Nat} (h : fm_V B) (nx : Nat) : ∀ (n m k : Nat), k < fm_WD B 6 → fm_WD B 6 - k ≤ n → fm_WD B 6 - k ≤ m → fm_seek B nx n k = fm_seek B nx m k := by
  intro n
  induction n with
  | zero => intro m k hk h1 _; omega
  | succ n ih =>
    intro m k hk h1 h2
    obtain ⟨m, rfl⟩ : ∃ q, m = q + 1 := ⟨m - 1, by omega⟩
    unfold fm_seek
    by_cases c1 : 128 < fm_AT B 6 k 0
    · rw [if_pos c1, if_pos c1]
    · rw [if_neg c1, if_neg c1]
      by_cases c2 : fm_AT B 6 k 1 = nx
      · rw [if_pos c2, if_pos c2]
      · rw [if_neg c2, if_neg c2]
        by_cases c3 : fm_AT B 6 k 0 = 128
        · rw [if_pos c3, if_pos c3]
        · rw [if_neg c3, if_neg c3]
          have h4 := fm_V_next h hk (by omega)
          exact ih m _ h4 (by omega) (by omega)
/-- a step of the search -/
theorem fm_seek_s {B : Nat → Nat} (h : fm_V B) {nx k : Nat} (hk : k < fm_WD B 6) : fm_seek B nx (fm_WD B 6 - k) k = if 128 < fm_AT B 6 k 0 then none else if fm_AT B 6 k 1 = nx then some k else if fm_AT B 6 k 0 = 128 then none else fm_seek B nx (fm_WD B 6 - (k + fm_AT B 6 k 0 + 1)) (k + fm_AT B 6 k 0 + 1) := by
  obtain ⟨n, hn⟩ : ∃ q, fm_WD B 6 - k = q + 1 := ⟨fm_WD B 6 - k - 1, by omega⟩
  rw [hn]
  show (if 128 < fm_AT B 6 k 0 then none else if fm_AT B 6 k 1 = nx then some k else if fm_AT B 6 k 0 = 128 then none else fm_seek B nx n (k + fm_AT B 6 k 0 + 1)) = _
  by_cases c1 : 128 < fm_AT B 6 k 0
  · rw [if_pos c1, if_pos c1]
  · rw [if_neg c1, if_neg c1]
    by_cases c2 : fm_AT B 6 k 1 = nx
    · rw [if_pos c2, if_pos c2]
    · rw [if_neg c2, if_neg c2]
      by_cases c3 : fm_AT B 6 k 0 = 128
      · rw [if_pos c3, if_pos c3]
      · rw [if_neg c3, if_neg c3]
        have h4 := fm_V_next h hk (by omega)
        exact fm_seek_fuel h nx _ _ _ h4 (by omega) (Nat.le_refl _)
theorem fm_smS {B : Nat → Nat} {n i : Nat} {v : Int32} (h : (decide (24 ≤ n) && fm_all i (fm_sm B)) = true) (h2 : (v = nI 1 ∧ fm_sm B i = true) ∨ (v = nI 0 ∧ fm_sm B i = false)) : v = fm_bI (decide (24 ≤ n) && fm_all (i + 1) (fm_sm B)) := by
  rw [fm_all, ← Bool.and_assoc, h, Bool.true_and]
  rcases h2 with ⟨e, h2⟩ | ⟨e, h2⟩ <;> rw [e, h2] <;> rfl
theorem fm_smX {B : Nat → Nat} {n i : Nat} (hi : i ≤ 12) (h : (decide (24 ≤ n) && fm_all i (fm_sm B)) = false) : (decide (24 ≤ n) && fm_all i (fm_sm B)) = fm_small B n := by
  rw [h, fm_small]
  rcases Bool.and_eq_false_iff.mp h with h1 | h1
  · rw [h1]; rfl
  · rw [fm_all_le hi h1, Bool.and_false]
/-- the place of a character's width, height, depth, italic -/
def fm_pl (B : Nat → Nat) (c : Nat) (w : Nat) : Nat := if w = 0 then fm_AT B 1 (c - fm_HF B 2) 0 else if w = 1 then fm_AT B 1 (c - fm_HF B 2) 1 / 16 else if w = 2 then fm_AT B 1 (c - fm_HF B 2) 1 % 16 else fm_AT B 1 (c - fm_HF B 2) 2 / 4
theorem fm_pl_lt {B : Nat → Nat} (hz : fm_all (fm_WD B 1) (fm_size1 B) = true) {c w : Nat} (h1 : fm_HF B 2 ≤ c) (h2 : c ≤ fm_HF B 3) (hw : w < 4) : fm_pl B c w < fm_WD B (2 + w) := by
  have h := fm_all_iff.mp hz (c - fm_HF B 2) (by rw [fm_WD1]; omega)
  unfold fm_size1 at h
  simp only [Bool.and_eq_true, decide_eq_true_eq] at h
  obtain ⟨⟨⟨a, b⟩, c3⟩, d⟩ := h
  rcases (show w = 0 ∨ w = 1 ∨ w = 2 ∨ w = 3 by omega) with rfl | rfl | rfl | rfl
  · exact a
  · exact b
  · exact c3
  · exact d
theorem fm_oI_ge {o : Option Nat} (h : ¬ fm_oI o < 0) : ∃ k, o = some k := by
  cases o with
  | none => exact absurd (by decide) h
  | some k => exact ⟨k, rfl⟩
theorem fm_oI_lt {o : Option Nat} {N : Nat} (hb : ∀ {k : Nat}, o = some k → k < N ∧ N ≤ 2 ^ 31) (h : fm_oI o < 0) : o = none := by
  cases o with
  | none => rfl
  | some k =>
    obtain ⟨h1, h2⟩ := hb rfl
    exact absurd h (nI_pos (by omega))
theorem fm_so_lt {B : Nat → Nat} (hB : ∀ i, B i < 256) {x : Nat} (_ : x ≤ 256) {k : Nat} (h : fm_so B x = some k) : k < 65536 ∧ 65536 ≤ 2 ^ 31 := by
  refine ⟨?_, by decide⟩
  unfold fm_so fm_epo at h
  split at h
  · split at h
    · cases h; exact fm_FAR_lt hB _
    · cases h
  · split at h
    · cases h
      have := fm_rest_lt hB x
      omega
    · cases h
theorem fm_no_lt {B : Nat → Nat} (hB : ∀ i, B i < 256) {r : Nat} (hr : r ≤ 256) {k : Nat} (h : fm_no B r = some k) : k < 257 ∧ 257 ≤ 2 ^ 31 := by
  refine ⟨?_, by decide⟩
  unfold fm_no fm_ego at h
  split at h
  · split at h
    · cases h
      have := fm_AT_lt hB 6 0 1
      omega
    · cases h
  · cases h
    omega
theorem fm_fwT {x : Bool} {j : Nat} {p : Nat → Bool} (h : (x || !(fm_all j p)) = true) : nI 1 = fm_bI (x || !(fm_all (j + 1) p)) := by
  have h2 : (x || !(fm_all (j + 1) p)) = true := by
    rw [fm_all]
    cases hx : x with
    | true => rfl
    | false =>
      rw [hx] at h
      cases hy : fm_all j p with
      | true => rw [hy] at h; cases h
      | false => rfl
  rw [h2]; rfl
theorem fm_fwS {x : Bool} {j : Nat} {p : Nat → Bool} {v : Int32} (h : (x || !(fm_all j p)) = false) (h2 : (v = nI 1 ∧ p j = false) ∨ (v = nI 0 ∧ p j = true)) : v = fm_bI (x || !(fm_all (j + 1) p)) := by
  obtain ⟨h3, h4⟩ := Bool.or_eq_false_iff.mp h
  have h5 : fm_all j p = true := by simpa using h4
  rw [fm_all, h3, h5]
  rcases h2 with ⟨e, h6⟩ | ⟨e, h6⟩ <;> rw [e, h6] <;> rfl
theorem fm_few_ne {B : Nat → Nat} (h : fm_few B = false) : ∀ p, 2 ≤ p → p < 6 → 0 < fm_WD B p := by
  intro p h1 h2
  unfold fm_few at h
  have h3 := (Bool.or_eq_false_iff.mp h).2
  have h4 : fm_all 4 (fm_nz B) = true := by simpa using h3
  have h5 := fm_all_iff.mp h4 (p - 2) (by omega)
  unfold fm_nz at h5
  rw [show p - 2 + 2 = p by omega] at h5
  have h6 := of_decide_eq_true h5
  omega
