/-! THE MODEL: numbers of a file B of bytes -/
def fm_bI (b : Bool) : Int32 := if b then 1 else 0
def fm_all : Nat → (Nat → Bool) → Bool
  | 0, _ => true
  | n + 1, p => fm_all n p && p n
theorem fm_all_iff {n : Nat} {p : Nat → Bool} : fm_all n p = true ↔ ∀ k, k < n → p k = true := by
  induction n with
  | zero => simp [fm_all]
  | succ n ih =>
    rw [fm_all, Bool.and_eq_true, ih]
    constructor
    · intro h k hk
      rcases Nat.lt_succ_iff_lt_or_eq.mp hk with h1 | h1
      · exact h.1 k h1
      · rw [h1]; exact h.2
    · intro h
      exact ⟨fun k hk => h k (Nat.lt_succ_of_lt hk), h n (Nat.lt_succ_self n)⟩
theorem fm_all_no {n k : Nat} {p : Nat → Bool} (hk : k < n) (h : p k = false) : fm_all n p = false := by
  cases hq : fm_all n p with
  | false => rfl
  | true => rw [fm_all_iff.mp hq k hk] at h; cases h
theorem fm_all_congr {n : Nat} {p q : Nat → Bool} (h : ∀ k, k < n → p k = q k) : fm_all n p = fm_all n q := by
  induction n with
  | zero => rfl
  | succ n ih => rw [fm_all, fm_all, ih (fun k hk => h k (Nat.lt_succ_of_lt hk)), h n (Nat.lt_succ_self n)]
def fm_HF (B : Nat → Nat) (k : Nat) : Nat := 256 * B (2 * k) + B (2 * k + 1)
def fm_WD (B : Nat → Nat) (p : Nat) : Nat := if p = 0 then fm_HF B 1 else if p = 1 then fm_HF B 3 + 1 - fm_HF B 2 else fm_HF B (p + 2)
def fm_ST (B : Nat → Nat) : Nat → Nat
  | 0 => 6
  | p + 1 => fm_ST B p + fm_WD B p
def fm_AT (B : Nat → Nat) (p k b : Nat) : Nat := B (4 * (fm_ST B p + k) + b)
def fm_FAR (B : Nat → Nat) (k : Nat) : Nat := 256 * fm_AT B 6 k 2 + fm_AT B 6 k 3
/-- the 32 bits of a word -/
def fm_WO (B : Nat → Nat) (i : Nat) : Nat := B (4 * i) * 16777216 + B (4 * i + 1) * 65536 + B (4 * i + 2) * 256 + B (4 * i + 3)
/-- character c is there -/
def fm_th (B : Nat → Nat) (c : Nat) : Bool := decide (fm_HF B 2 ≤ c) && decide (c ≤ fm_HF B 3) && decide (0 < fm_AT B 1 (c - fm_HF B 2) 0)
def fm_thI (B : Nat → Nat) (c : Int32) : Bool := decide (¬ c < 0) && fm_th B c.toNatClampNeg
def fm_tag (B : Nat → Nat) (c : Nat) : Nat := fm_AT B 1 (c - fm_HF B 2) 2 % 4
def fm_rest (B : Nat → Nat) (c : Nat) : Nat := fm_AT B 1 (c - fm_HF B 2) 3
def fm_eg (B : Nat → Nat) : Int32 := if 0 < fm_WD B 6 ∧ fm_AT B 6 0 0 = 255 then nI (fm_AT B 6 0 1) else -1
def fm_ep (B : Nat → Nat) : Int32 := if 0 < fm_WD B 6 ∧ fm_AT B 6 (fm_WD B 6 - 1) 0 = 255 then nI (fm_FAR B (fm_WD B 6 - 1)) else -1
/-- the lengths fit: behind faults 1 to 4 -/
def fm_Len (B : Nat → Nat) : Prop := (∀ i, B i < 256) ∧ fm_HF B 2 ≤ fm_HF B 3 + 1 ∧ fm_HF B 3 ≤ 255 ∧ fm_ST B 10 ≤ 2048
-- the checks
def fm_sm (B : Nat → Nat) (k : Nat) : Bool := decide (fm_HF B k ≤ 32767)
def fm_small (B : Nat → Nat) (n : Nat) : Bool := decide (24 ≤ n) && fm_all 12 (fm_sm B)
def fm_size1 (B : Nat → Nat) (k : Nat) : Bool := decide (fm_AT B 1 k 0 < fm_WD B 2) && decide (fm_AT B 1 k 1 / 16 < fm_WD B 3) && decide (fm_AT B 1 k 1 % 16 < fm_WD B 4) && decide (fm_AT B 1 k 2 / 4 < fm_WD B 5)
def fm_lead (B : Nat → Nat) (c : Nat) : Nat → Nat → Bool
  | 0, _ => true
  | n + 1, x => if x = c then false else if fm_th B x = false ∨ fm_tag B x ≠ 2 then true else fm_lead B c n (fm_rest B x)
def fm_larger (B : Nat → Nat) (c : Nat) : Bool := fm_th B (fm_rest B c) && fm_lead B c 256 (fm_rest B c)
def fm_tag1 (B : Nat → Nat) (c : Nat) : Bool := !fm_th B c || ((decide (fm_tag B c ≠ 1) || decide (fm_rest B c < fm_WD B 6)) && (decide (fm_tag B c ≠ 3) || decide (fm_rest B c < fm_WD B 8)) && (decide (fm_tag B c ≠ 2) || fm_larger B c))
def fm_frac (B : Nat → Nat) (p k : Nat) : Bool := decide (fm_AT B p k 0 = 0) || decide (fm_AT B p k 0 = 255)
def fm_fr (B : Nat → Nat) (p first k : Nat) : Bool := decide (k < first) || fm_frac B p k
def fm_fracs (B : Nat → Nat) (p first : Nat) : Bool := fm_all (fm_WD B p) (fm_fr B p first)
def fm_zb (B : Nat → Nat) (p b : Nat) : Bool := decide (fm_AT B p 0 b = 0)
def fm_tab1 (B : Nat → Nat) (j : Nat) : Bool := fm_fracs B (j + 2) 0 && fm_all 4 (fm_zb B (j + 2))
def fm_tables (B : Nat → Nat) : Bool := fm_fracs B 7 0 && fm_all 4 (fm_tab1 B)
def fm_w1 (B : Nat → Nat) (k : Nat) : Bool := fm_th B (fm_AT B 6 k 1) || decide (nI (fm_AT B 6 k 1) = fm_eg B)
def fm_w2 (B : Nat → Nat) (k : Nat) : Bool := if fm_AT B 6 k 2 < 128 then fm_th B (fm_AT B 6 k 3) else decide (256 * (fm_AT B 6 k 2 - 128) + fm_AT B 6 k 3 < fm_WD B 7)
def fm_w3 (B : Nat → Nat) (k : Nat) : Bool := decide (fm_AT B 6 k 0 = 128) || decide (k + fm_AT B 6 k 0 + 1 < fm_WD B 6)
def fm_word1 (B : Nat → Nat) (k : Nat) : Bool := if 128 < fm_AT B 6 k 0 then decide (fm_FAR B k < fm_WD B 6) else fm_w1 B k && fm_w2 B k && fm_w3 B k
def fm_rec (B : Nat → Nat) (k b : Nat) : Bool := decide (fm_AT B 8 k b = 0) || fm_th B (fm_AT B 8 k b)
def fm_recipe1 (B : Nat → Nat) (k : Nat) : Bool := fm_th B (fm_AT B 8 k 3) && fm_all 3 (fm_rec B k)
def fm_nz (B : Nat → Nat) (j : Nat) : Bool := decide (fm_WD B (j + 2) ≠ 0)
def fm_few (B : Nat → Nat) : Bool := decide (fm_WD B 0 < 2) || decide (256 < fm_WD B 8) || !(fm_all 4 (fm_nz B))
def fm_fault (B : Nat → Nat) (n : Nat) : Nat :=
  if fm_small B n = false then 1
  else if fm_HF B 3 + 1 < fm_HF B 2 ∨ 255 < fm_HF B 3 then 2
  else if fm_few B = true then 3
  else if fm_HF B 0 ≠ fm_ST B 10 ∨ n ≠ 4 * fm_HF B 0 then 4
  else if nI (fm_WO B 7) < nI 1048576 then 5
  else if fm_all (fm_WD B 1) (fm_size1 B) = false then 6
  else if fm_all (fm_WD B 1) (fun k => fm_tag1 B (fm_HF B 2 + k)) = false then 7
  else if fm_tables B = false then 8
  else if fm_all (fm_WD B 6) (fm_word1 B) = false then 9
  else if fm_all (fm_WD B 8) (fm_recipe1 B) = false then 10
  else if fm_fracs B 9 1 = true then 0 else 11
-- rows of the model
def fm_RB (f : Nat → Int32) (i : Nat) : Nat := (f i).toBitVec.toNat % 256
theorem fm_RB_lt (f : Nat → Int32) (i : Nat) : fm_RB f i < 256 := Nat.mod_lt _ (by decide)
theorem fm_RB_and (f : Nat → Int32) (i : Nat) : f i &&& nI 255 = nI (fm_RB f i) := pk_and (f i) 8 (by decide)
theorem fm_bI_f {b : Bool} (h : fm_bI b = 0) : b = false := by
  cases b
  · rfl
  · exact absurd h (by decide)
theorem fm_bI_t {b : Bool} (h : ¬ fm_bI b = 0) : b = true := by
  cases b
  · exact absurd (by decide) h
  · rfl
theorem fm_bI_z (b : Bool) : narrow .boolean (.int (fm_bI b)) = .int (fm_bI b) := by
  cases b <;> rfl
theorem fm_bI_1 {b : Bool} (h : b = true) : nI 1 = fm_bI b := by rw [h]; rfl
theorem fm_bI_0 {b : Bool} (h : b = false) : nI 0 = fm_bI b := by rw [h]; rfl
theorem fm_HF_lt {B : Nat → Nat} (hB : ∀ i, B i < 256) (k : Nat) : fm_HF B k < 65536 := by
  have h1 := hB (2 * k)
  have h2 := hB (2 * k + 1)
  unfold fm_HF
  omega
theorem fm_WD_le {B : Nat → Nat} (hB : ∀ i, B i < 256) (p : Nat) : fm_WD B p ≤ 65536 := by
  have h1 := fm_HF_lt hB 1
  have h2 := fm_HF_lt hB 3
  have h3 := fm_HF_lt hB (p + 2)
  unfold fm_WD
  split
  · omega
  · split <;> omega
theorem fm_ST_le {B : Nat → Nat} (hB : ∀ i, B i < 256) (p : Nat) : fm_ST B p ≤ 6 + p * 65536 := by
  induction p with
  | zero => exact Nat.le_refl _
  | succ p ih =>
    have h := fm_WD_le hB p
    show fm_ST B p + fm_WD B p ≤ _
    omega
theorem fm_ST_mono {B : Nat → Nat} {p q : Nat} (h : p ≤ q) : fm_ST B p ≤ fm_ST B q := by
  induction h with
  | refl => exact Nat.le_refl _
  | step _ ih => exact Nat.le_trans ih (Nat.le_add_right _ _)
theorem fm_in {B : Nat → Nat} {p k q : Nat} (hk : k < fm_WD B p) (hpq : p < q) : fm_ST B p + k < fm_ST B q :=
  Nat.lt_of_lt_of_le (Nat.add_lt_add_left hk _) (fm_ST_mono (p := p + 1) hpq)
theorem fm_AT_lt {B : Nat → Nat} (hB : ∀ i, B i < 256) (p k b : Nat) : fm_AT B p k b < 256 := hB _
theorem fm_FAR_lt {B : Nat → Nat} (hB : ∀ i, B i < 256) (k : Nat) : fm_FAR B k < 65536 := by
  have h1 := fm_AT_lt hB 6 k 2
  have h2 := fm_AT_lt hB 6 k 3
  unfold fm_FAR
  omega
theorem fm_sub1 {a b : Nat} (h : b ≤ a + 1) : nI a - nI b + nI 1 = nI (a + 1 - b) := by
  have h1 := pk_sub (a := a + 1) (b := b) h
  rw [← h1, ← nI_add, Int32.sub_eq_add_neg, Int32.sub_eq_add_neg, Int32.add_assoc, Int32.add_assoc, Int32.add_comm (-nI b)]
theorem fm_ge {c : Int32} {a : Nat} (ha : a < 2 ^ 31) (h : ¬ c < nI a) : ∃ n : Nat, n < 2 ^ 31 ∧ a ≤ n ∧ c = nI n := by
  have h0 : ¬ c < 0 := fun z => h (Int32.lt_of_lt_of_le z (nI_pos' ha))
  obtain ⟨n, hn, rfl⟩ := nI_of h0
  exact ⟨n, hn, Nat.le_of_not_lt (fun z => h ((nI_ltI hn ha).mpr z)), rfl⟩
theorem fm_thI_n {B : Nat → Nat} {n : Nat} (h : n < 2 ^ 31) : fm_thI B (nI n) = fm_th B n := by
  unfold fm_thI
  rw [nI_clamp h]
  simp [nI_pos h]
theorem fm_thI_lt {B : Nat → Nat} (hB : ∀ i, B i < 256) {c : Int32} (h : c < nI (fm_HF B 2)) : fm_thI B c = false := by
  have h2 := fm_HF_lt hB 2
  unfold fm_thI
  by_cases h0 : c < 0
  · simp [h0]
  · obtain ⟨n, hn, rfl⟩ := nI_of h0
    have h1 := (nI_ltI hn (by omega)).mp h
    rw [nI_clamp hn]
    unfold fm_th
    simp [Nat.not_le.mpr h1]
theorem fm_th_f1 {B : Nat → Nat} {n : Nat} (h : fm_HF B 3 < n) : fm_th B n = false := by
  unfold fm_th
  simp [Nat.not_le.mpr h]
theorem fm_th_f2 {B : Nat → Nat} {n : Nat} (h : fm_AT B 1 (n - fm_HF B 2) 0 ≤ 0) : fm_th B n = false := by
  unfold fm_th
  simp [Nat.not_lt.mpr h]
theorem fm_th_t {B : Nat → Nat} {n : Nat} (h1 : fm_HF B 2 ≤ n) (h2 : n ≤ fm_HF B 3) (h : ¬ fm_AT B 1 (n - fm_HF B 2) 0 ≤ 0) : fm_th B n = true := by
  unfold fm_th
  simp [h1, h2, Nat.lt_of_not_le h]
theorem fm_WD1 (B : Nat → Nat) : fm_WD B 1 = fm_HF B 3 + 1 - fm_HF B 2 := rfl
theorem fm_tag_lt (B : Nat → Nat) (c : Nat) : fm_tag B c < 4 := Nat.mod_lt _ (by decide)
theorem fm_rest_lt {B : Nat → Nat} (hB : ∀ i, B i < 256) (c : Nat) : fm_rest B c < 256 := hB _
theorem fm_th_in {B : Nat → Nat} {n : Nat} (h : fm_th B n = true) : fm_HF B 2 ≤ n ∧ n ≤ fm_HF B 3 ∧ 0 < fm_AT B 1 (n - fm_HF B 2) 0 := by
  unfold fm_th at h
  simpa [Bool.and_eq_true, and_assoc] using h
/-- a character of bc .. ec has its word in the file -/
theorem fm_cin {B : Nat → Nat} {c : Nat} (hL : fm_Len B) (h1 : fm_HF B 2 ≤ c) (h2 : c ≤ fm_HF B 3) : fm_ST B 1 + (c - fm_HF B 2) < 2048 := by
  have h := fm_in (B := B) (p := 1) (k := c - fm_HF B 2) (q := 10) (by rw [fm_WD1]; omega) (by decide)
  have h3 := hL.2.2.2
  omega
theorem fm_pin {B : Nat → Nat} {p k : Nat} (hL : fm_Len B) (hp : p < 10) (hk : k < fm_WD B p) : fm_ST B p + k < 2048 := by
  have h := fm_in (B := B) (p := p) (k := k) (q := 10) hk hp
  have h3 := hL.2.2.2
  omega
theorem fm_all_lt {B : Nat → Nat} {p n first : Nat} (h : n ≤ first) : fm_all n (fm_fr B p first) = true :=
  fm_all_iff.mpr (fun k hk => by simp [fm_fr, show k < first by omega])
theorem fm_lead_s {B : Nat → Nat} {c i x : Nat} (h : i < 256) : fm_lead B c (256 - i) x = if x = c then false else if fm_th B x = false ∨ fm_tag B x ≠ 2 then true else fm_lead B c (256 - (i + 1)) (fm_rest B x) := by
  rw [show 256 - i = (256 - (i + 1)) + 1 by omega]
  rfl
theorem fm_and_z (x y : Bool) (h : x = false) : nI 0 = fm_bI (x && y) := by rw [h]; rfl
theorem fm_and_t {x y : Bool} (h : x = true) (h2 : y = true) : nI 1 = fm_bI (x && y) := by rw [h, h2]; rfl
theorem fm_and_f {x y : Bool} (h2 : y = false) : nI 0 = fm_bI (x && y) := by rw [h2, Bool.and_false]; rfl
theorem fm_stT {n : Nat} {p : Nat → Bool} (h1 : fm_all n p = true) (h2 : p n = true) : nI 1 = fm_bI (fm_all (n + 1) p) := by rw [fm_all, h1, h2]; rfl
theorem fm_stF1 {n : Nat} {p : Nat → Bool} (h1 : fm_all n p = false) : nI 0 = fm_bI (fm_all (n + 1) p) := by rw [fm_all, h1]; rfl
theorem fm_stF2 {n : Nat} {p : Nat → Bool} (h2 : p n = false) : nI 0 = fm_bI (fm_all (n + 1) p) := by rw [fm_all, h2, Bool.and_false]; rfl
theorem fm_st0 {n : Nat} {p : Nat → Bool} (h2 : p n = true) : fm_bI (fm_all n p) = fm_bI (fm_all (n + 1) p) := by rw [fm_all, h2, Bool.and_true]
theorem fm_tag1_t {B : Nat → Nat} {c : Nat} (h1 : fm_tag B c = 1 → fm_rest B c < fm_WD B 6) (h3 : fm_tag B c = 3 → fm_rest B c < fm_WD B 8) (h2 : fm_tag B c = 2 → fm_larger B c = true) : fm_tag1 B c = true := by
  unfold fm_tag1
  by_cases e1 : fm_tag B c = 1
  · simp [e1, h1 e1]
  · by_cases e2 : fm_tag B c = 2
    · simp [e2, h2 e2]
    · by_cases e3 : fm_tag B c = 3
      · simp [e3, h3 e3]
      · simp [e1, e2, e3]
theorem fm_tag1_f {B : Nat → Nat} {c : Nat} (h : fm_th B c = true) (h1 : (fm_tag B c = 1 ∧ fm_WD B 6 ≤ fm_rest B c) ∨ (fm_tag B c = 3 ∧ fm_WD B 8 ≤ fm_rest B c) ∨ (fm_tag B c = 2 ∧ fm_larger B c = false)) : fm_tag1 B c = false := by
  unfold fm_tag1
  rcases h1 with ⟨a, b⟩ | ⟨a, b⟩ | ⟨a, b⟩
  · simp [h, a, Nat.not_lt.mpr b]
  · simp [h, a, Nat.not_lt.mpr b]
  · simp [h, a, b]
theorem fm_tag1_0 {B : Nat → Nat} {c : Nat} (h : fm_th B c = false) : fm_tag1 B c = true := by
  unfold fm_tag1
  simp [h]
theorem fm_all_le {n k : Nat} {p : Nat → Bool} (hk : k ≤ n) (h : fm_all k p = false) : fm_all n p = false := by
  cases hq : fm_all n p with
  | false => rfl
  | true => rw [fm_all_iff.mpr (fun j hj => fm_all_iff.mp hq j (Nat.lt_of_lt_of_le hj hk))] at h; cases h
theorem fm_or (a b : Nat) : nI a ||| nI b = nI (a ||| b) := by
  apply Int32.toBitVec_inj.mp
  apply BitVec.eq_of_toNat_eq
  simp [nI, Nat.or_mod_two_pow]
theorem fm_shor {v b : Nat} (hv : v < 16777216) (hb : b < 256) : (nI v <<< (nI 8 &&& 31)) ||| nI b = nI (v * 256 + b) := by
  rw [pk_shlN (n := v) (nI 8 &&& 31) 8 (by decide) (by omega), fm_or]
  congr 1
  have h := Nat.shiftLeft_add_eq_or_of_lt (i := 8) (by omega : b < 2 ^ 8) v
  rw [Nat.shiftLeft_eq] at h
  rw [← h]
theorem fm_four {a b c d : Nat} (ha : a < 256) (hb : b < 256) (hc : c < 256) (hd : d < 256) :
    ((((((((nI 0 <<< (nI 8 &&& 31)) ||| nI a) <<< (nI 8 &&& 31)) ||| nI b) <<< (nI 8 &&& 31)) ||| nI c) <<< (nI 8 &&& 31)) ||| nI d) = nI (a * 16777216 + b * 65536 + c * 256 + d) := by
  rw [fm_shor (by omega) ha, fm_shor (by omega) hb, fm_shor (by omega) hc, fm_shor (by omega) hd]
  exact congrArg nI (by omega)
theorem fm_tabs_s {B : Nat → Nat} {j : Nat} (x : Bool) : ((x && fm_all j (fm_tab1 B)) && (fm_fracs B (j + 2) 0 && fm_all 4 (fm_zb B (j + 2)))) = (x && fm_all (j + 1) (fm_tab1 B)) := by
  rw [fm_all, Bool.and_assoc]
  rfl
theorem fm_recs_s {B : Nat → Nat} {i : Nat} : (fm_all i (fm_recipe1 B) && (fm_th B (fm_AT B 8 i 3) && fm_all 3 (fm_rec B i))) = fm_all (i + 1) (fm_recipe1 B) := rfl
theorem fm_bb {x y : Bool} (h : x = y) : fm_bI x = fm_bI y := by rw [h]
/-- a conjunction's last step: 1 or 0 -/
theorem fm_cT {x y : Bool} (h1 : x = true) (h2 : y = true) : nI 1 = fm_bI (x && y) := by rw [h1, h2]; rfl
theorem fm_cF1 {x y : Bool} (h1 : x = false) : nI 0 = fm_bI (x && y) := by rw [h1]; rfl
theorem fm_cF2 {x y : Bool} (h2 : y = false) : nI 0 = fm_bI (x && y) := by rw [h2, Bool.and_false]; rfl
theorem fm_iT {x y : Bool} {n : Nat} {p : Nat → Bool} (h1 : (x && (y && fm_all n p)) = true) (h2 : p n = true) : nI 1 = fm_bI (x && (y && fm_all (n + 1) p)) := by
  rw [fm_all, h2, Bool.and_true, h1]; rfl
theorem fm_iF1 {x y : Bool} {n : Nat} {p : Nat → Bool} (h1 : (x && (y && fm_all n p)) = false) : nI 0 = fm_bI (x && (y && fm_all (n + 1) p)) := by
  rw [fm_all, ← Bool.and_assoc, ← Bool.and_assoc, Bool.and_assoc x, h1]; rfl
theorem fm_iF2 {x y : Bool} {n : Nat} {p : Nat → Bool} (h2 : p n = false) : nI 0 = fm_bI (x && (y && fm_all (n + 1) p)) := by
  rw [fm_all, h2]; simp; rfl
theorem fm_df {P : Prop} [Decidable P] (h : ¬ P) : decide P = false := decide_eq_false h
theorem fm_fr_t {B : Nat → Nat} {p first k : Nat} (h : fm_AT B p k 0 = 0 ∨ fm_AT B p k 0 = 255) : fm_fr B p first k = true := by
  unfold fm_fr fm_frac
  rcases h with h | h <;> simp [h]
theorem fm_fr_f {B : Nat → Nat} {p first k : Nat} (h0 : first ≤ k) (h1 : fm_AT B p k 0 ≠ 0) (h2 : fm_AT B p k 0 ≠ 255) : fm_fr B p first k = false := by
  unfold fm_fr fm_frac
  simp [h1, h2, h0]
theorem fm_w2_1 {B : Nat → Nat} {k : Nat} {x : Bool} (h : ¬ 128 ≤ fm_AT B 6 k 2) (h2 : fm_th B (fm_AT B 6 k 3) = x) : fm_w2 B k = x := by
  unfold fm_w2
  rw [if_pos (Nat.lt_of_not_le h)]
  exact h2
theorem fm_w2_t {B : Nat → Nat} {k : Nat} (h : 128 ≤ fm_AT B 6 k 2) (h2 : ¬ fm_WD B 7 ≤ 256 * (fm_AT B 6 k 2 - 128) + fm_AT B 6 k 3) : fm_w2 B k = true := by
  unfold fm_w2
  rw [if_neg (Nat.not_lt.mpr h)]
  exact decide_eq_true (Nat.lt_of_not_le h2)
theorem fm_w2_f {B : Nat → Nat} {k : Nat} (h : 128 ≤ fm_AT B 6 k 2) (h2 : fm_WD B 7 ≤ 256 * (fm_AT B 6 k 2 - 128) + fm_AT B 6 k 3) : fm_w2 B k = false := by
  unfold fm_w2
  rw [if_neg (Nat.not_lt.mpr h)]
  exact decide_eq_false (Nat.not_lt.mpr h2)
theorem fm_fracs_x {B : Nat → Nat} {p first i : Nat} (h : fm_WD B p ≤ i) (hi : i ≤ fm_WD B p ∨ i = first) : fm_all i (fm_fr B p first) = fm_fracs B p first := by
  unfold fm_fracs
  by_cases hz : i = fm_WD B p
  · rw [hz]
  · rw [fm_all_lt (show i ≤ first by omega), fm_all_lt (show fm_WD B p ≤ first by omega)]
