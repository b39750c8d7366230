/-! THE MODEL, third part: words of 32 bits, as the class holds them -/
def fm_tn (x : Int32) : Nat := x.toBitVec.toNat
theorem fm_tn_lt (x : Int32) : fm_tn x < 4294967296 := x.toBitVec.isLt
theorem fm_tn_nI {n : Nat} (h : n < 4294967296) : fm_tn (nI n) = n := pk_tn h
theorem fm_tn_inj {x y : Int32} (h : fm_tn x = fm_tn y) : x = y := Int32.toBitVec_inj.mp (BitVec.eq_of_toNat_eq h)
theorem fm_su : ∀ k, k < 32 → (((nI k).toUInt32 &&& Int32.toUInt32 31).toBitVec % 32).toNat = k := by decide
theorem fm_ush (x : Int32) {k : Nat} (hk : k < 32) : (x.toUInt32 >>> ((nI k).toUInt32 &&& Int32.toUInt32 31)).toInt32 = nI (fm_tn x / 2 ^ k) := by
  apply fm_tn_inj
  have h := pk_ushr x (nI k) k (fm_su k hk)
  have h2 : fm_tn x / 2 ^ k < 4294967296 := Nat.lt_of_le_of_lt (Nat.div_le_self _ _) (fm_tn_lt x)
  rw [fm_tn_nI h2]
  exact h
def fm_by (x : Int32) (j : Nat) : Nat := fm_tn x / 2 ^ (24 - 8 * j) % 256
theorem fm_by_lt (x : Int32) (j : Nat) : fm_by x j < 256 := Nat.mod_lt _ (by decide)
theorem fm_by0 (x : Int32) : nI (fm_tn x / 2 ^ 24) = nI (fm_by x 0) := by
  have h := fm_tn_lt x
  exact congrArg nI (by unfold fm_by; simp only [Nat.reducePow, Nat.reduceMul, Nat.reduceSub]; omega)
theorem fm_by1h (x : Int32) : nI (fm_tn x / 2 ^ 20 % 2 ^ 4) = nI (fm_by x 1 / 16) := by
  exact congrArg nI (by unfold fm_by; simp only [Nat.reducePow, Nat.reduceMul, Nat.reduceSub]; omega)
theorem fm_by1l (x : Int32) : nI (fm_tn x / 2 ^ 16 % 2 ^ 4) = nI (fm_by x 1 % 16) := by
  exact congrArg nI (by unfold fm_by; simp only [Nat.reducePow, Nat.reduceMul, Nat.reduceSub]; omega)
theorem fm_by2h (x : Int32) : nI (fm_tn x / 2 ^ 10 % 2 ^ 6) = nI (fm_by x 2 / 4) := by
  exact congrArg nI (by unfold fm_by; simp only [Nat.reducePow, Nat.reduceMul, Nat.reduceSub]; omega)
theorem fm_by2l (x : Int32) : nI (fm_tn x / 2 ^ 8 % 2 ^ 2) = nI (fm_by x 2 % 4) := by
  exact congrArg nI (by unfold fm_by; simp only [Nat.reducePow, Nat.reduceMul, Nat.reduceSub]; omega)
theorem fm_by3 (x : Int32) : x &&& nI 255 = nI (fm_by x 3) := by
  rw [show x &&& nI 255 = nI (fm_tn x % 2 ^ 8) from pk_and x 8 (by decide)]
  exact congrArg nI (by unfold fm_by; simp only [Nat.reducePow, Nat.reduceMul, Nat.reduceSub]; omega)
theorem fm_by23 (x : Int32) : x &&& nI 65535 = nI (256 * fm_by x 2 + fm_by x 3) := by
  rw [show x &&& nI 65535 = nI (fm_tn x % 2 ^ 16) from pk_and x 16 (by decide)]
  exact congrArg nI (by unfold fm_by; simp only [Nat.reducePow, Nat.reduceMul, Nat.reduceSub]; omega)
theorem fm_mk (x : Int32) {a k : Nat} {m : Nat} (hm : (nI m).toBitVec.toNat = 2 ^ k - 1) : nI (fm_tn x / 2 ^ a) &&& nI m = nI (fm_tn x / 2 ^ a % 2 ^ k) :=
  pk_andN (Nat.lt_of_le_of_lt (Nat.div_le_self _ _) (fm_tn_lt x)) k hm
/-- a word of a part -/
def fm_W (B : Nat → Nat) (p k : Nat) : Int32 := nI (fm_WO B (fm_ST B p + k))
theorem fm_WO_lt {B : Nat → Nat} (hB : ∀ i, B i < 256) (i : Nat) : fm_WO B i < 4294967296 := by
  have h0 := hB (4 * i)
  have h1 := hB (4 * i + 1)
  have h2 := hB (4 * i + 2)
  have h3 := hB (4 * i + 3)
  unfold fm_WO
  omega
theorem fm_by_W {B : Nat → Nat} (hB : ∀ i, B i < 256) (p k : Nat) {j : Nat} (hj : j < 4) : fm_by (fm_W B p k) j = fm_AT B p k j := by
  unfold fm_by fm_W
  rw [fm_tn_nI (fm_WO_lt hB _)]
  unfold fm_WO fm_AT
  generalize fm_ST B p + k = i
  have h0 := hB (4 * i)
  have h1 := hB (4 * i + 1)
  have h2 := hB (4 * i + 2)
  have h3 := hB (4 * i + 3)
  rcases (show j = 0 ∨ j = 1 ∨ j = 2 ∨ j = 3 by omega) with rfl | rfl | rfl | rfl <;> simp only [Nat.reducePow, Nat.reduceMul, Nat.reduceSub, Nat.add_zero] <;> omega
theorem fm_by_0 (j : Nat) : fm_by 0 j = 0 := by
  unfold fm_by
  rw [show fm_tn 0 = 0 from rfl, Nat.zero_div]
theorem fm_numW {B : Nat → Nat} (hB : ∀ i, B i < 256) (p k : Nat) : fm_W B p k &&& nI 16777215 = nI (fm_num B p k) := by
  rw [show fm_W B p k &&& nI 16777215 = nI (fm_tn (fm_W B p k) % 2 ^ 24) from pk_and _ 24 (by decide)]
  refine congrArg nI ?_
  unfold fm_W
  rw [fm_tn_nI (fm_WO_lt hB _)]
  unfold fm_WO fm_num fm_AT
  generalize fm_ST B p + k = i
  have h0 := hB (4 * i)
  have h1 := hB (4 * i + 1)
  have h2 := hB (4 * i + 2)
  have h3 := hB (4 * i + 3)
  simp only [Nat.reducePow]
  omega
/-- a font's cells, behind faults 1 to 4 -/
def fm_FO (B : Nat → Nat) (w st ln : Nat → Int32) : Prop := fm_Len B ∧ (∀ i, i < fm_ST B 10 → w i = nI (fm_WO B i)) ∧ (∀ p, p < 10 → st p = nI (fm_ST B p)) ∧ (∀ p, p < 10 → ln p = nI (fm_WD B p))
/-- number i of a file's first words -/
def fm_nb (w : Nat → Int32) (i : Nat) : Nat := if i % 2 = 0 then fm_tn (w (i / 2)) / 65536 else fm_tn (w (i / 2)) % 65536
theorem fm_nb_lt (w : Nat → Int32) (i : Nat) : fm_nb w i < 65536 := by
  have h := fm_tn_lt (w (i / 2))
  unfold fm_nb
  split <;> omega
/-- a word by a part and a place, 0 where there is none -/
def fm_wd (B : Nat → Nat) (p : Nat) (x : Int32) : Int32 := if ¬ x < 0 ∧ x.toNatClampNeg < fm_WD B p then fm_W B p x.toNatClampNeg else nI 0
theorem fm_wd_in {B : Nat → Nat} {p k : Nat} (hk : k < 2 ^ 31) (h : k < fm_WD B p) : fm_wd B p (nI k) = fm_W B p k := by
  unfold fm_wd
  rw [nI_clamp hk, if_pos ⟨nI_pos hk, h⟩]
theorem fm_wd_out {B : Nat → Nat} {p k : Nat} (hk : k < 2 ^ 31) (h : ¬ k < fm_WD B p) : fm_wd B p (nI k) = nI 0 := by
  unfold fm_wd
  rw [nI_clamp hk, if_neg (fun z => h z.2)]
theorem fm_wd_neg {B : Nat → Nat} {p : Nat} {x : Int32} (h : x < 0) : fm_wd B p x = nI 0 := by
  unfold fm_wd
  rw [if_neg (fun z => z.1 h)]
theorem fm_eg_wd {B : Nat → Nat} (hB : ∀ i, B i < 256) : fm_eg B = if fm_by (fm_wd B 6 (nI 0)) 0 = 255 then nI (fm_by (fm_wd B 6 (nI 0)) 1) else -1 := by
  unfold fm_eg
  by_cases h : 0 < fm_WD B 6
  · rw [fm_wd_in (by decide) h, fm_by_W hB 6 0 (by decide), fm_by_W hB 6 0 (by decide)]
    by_cases h2 : fm_AT B 6 0 0 = 255
    · rw [if_pos ⟨h, h2⟩, if_pos h2]
    · rw [if_neg (fun z => h2 z.2), if_neg h2]
  · rw [fm_wd_out (by decide) h, if_neg (fun z => h z.1), if_neg (by rw [show nI 0 = 0 from rfl, fm_by_0]; decide)]
theorem fm_ep_wd {B : Nat → Nat} (hB : ∀ i, B i < 256) : fm_ep B = if fm_by (fm_wd B 6 (nI (fm_WD B 6) - nI 1)) 0 = 255 then nI (256 * fm_by (fm_wd B 6 (nI (fm_WD B 6) - nI 1)) 2 + fm_by (fm_wd B 6 (nI (fm_WD B 6) - nI 1)) 3) else -1 := by
  have hw := fm_WD_le hB 6
  unfold fm_ep
  by_cases h : 0 < fm_WD B 6
  · rw [pk_sub (show 1 ≤ fm_WD B 6 from h), fm_wd_in (by omega) (by omega), fm_by_W hB 6 _ (by decide), fm_by_W hB 6 _ (by decide), fm_by_W hB 6 _ (by decide)]
    by_cases h2 : fm_AT B 6 (fm_WD B 6 - 1) 0 = 255
    · rw [if_pos ⟨h, h2⟩, if_pos h2]; rfl
    · rw [if_neg (fun z => h2 z.2), if_neg h2]
  · rw [show fm_WD B 6 = 0 by omega, fm_wd_neg (by decide), if_neg (fun z => absurd z.1 (by decide)), if_neg (by rw [show nI 0 = 0 from rfl, fm_by_0]; decide)]
/-- the word of a character, 0 outside bc .. ec -/
def fm_ch (B : Nat → Nat) (c : Int32) : Int32 := if ¬ c < nI (fm_HF B 2) ∧ ¬ nI (fm_HF B 3) < c then fm_W B 1 (c.toNatClampNeg - fm_HF B 2) else nI 0
theorem fm_ch_in {B : Nat → Nat} (hB : ∀ i, B i < 256) {c : Nat} (h1 : fm_HF B 2 ≤ c) (h2 : c ≤ fm_HF B 3) : fm_ch B (nI c) = fm_W B 1 (c - fm_HF B 2) := by
  have h3 := fm_HF_lt hB 3
  unfold fm_ch
  rw [nI_clamp (by omega), if_pos ⟨fun z => by have := (nI_ltI (by omega) (by omega)).mp z; omega, fun z => by have := (nI_ltI (by omega) (by omega)).mp z; omega⟩]
theorem fm_thI_ch {B : Nat → Nat} (hB : ∀ i, B i < 256) (c : Int32) : fm_thI B c = decide (fm_by (fm_ch B c) 0 ≠ 0) := by
  have h2 := fm_HF_lt hB 2
  have h3 := fm_HF_lt hB 3
  by_cases e1 : c < nI (fm_HF B 2)
  · rw [fm_thI_lt hB e1, fm_ch, if_neg (fun z => z.1 e1), show nI 0 = 0 from rfl, fm_by_0]; rfl
  · obtain ⟨n, hn, hcn, rfl⟩ := fm_ge (by omega) e1
    rw [fm_thI_n hn]
    by_cases e2 : nI (fm_HF B 3) < nI n
    · rw [fm_th_f1 ((nI_ltI (by omega) hn).mp e2), fm_ch, if_neg (fun z => z.2 e2), show nI 0 = 0 from rfl, fm_by_0]; rfl
    · have e3 : n ≤ fm_HF B 3 := Nat.le_of_not_lt (fun z => e2 ((nI_ltI (by omega) hn).mpr z))
      rw [fm_ch_in hB hcn e3, fm_by_W hB _ _ (by decide)]
      unfold fm_th
      simp [hcn, e3, Nat.pos_iff_ne_zero]
def fm_ps (B : Nat → Nat) (x : Nat) : Option Nat := (fm_so B x).map (fm_at0 B)
theorem fm_oI_eq {o : Option Nat} {a : Nat} (ha : a < 2 ^ 31) (hb : ∀ {k : Nat}, o = some k → k < 257 ∧ 257 ≤ 2 ^ 31) (h : nI a = fm_oI o) : o = some a := by
  cases o with
  | none =>
    have : nI a < 0 := by rw [h]; decide
    exact absurd this (nI_pos ha)
  | some k =>
    obtain ⟨h1, h2⟩ := hb rfl
    rw [(nI_eq ha (by omega)).mp h]
/-- a character's program, by its word -/
theorem fm_soW {B : Nat → Nat} (hB : ∀ i, B i < 256) {x : Nat} (hx : fm_th B x = true) (hne : x ≠ 256) : fm_oI (fm_so B x) = if fm_by (fm_ch B (nI x)) 0 ≠ 0 ∧ fm_by (fm_ch B (nI x)) 2 % 4 = 1 then nI (fm_by (fm_ch B (nI x)) 3) else -1 := by
  obtain ⟨h1, h2, h3⟩ := fm_th_in hx
  rw [fm_ch_in hB h1 h2, fm_by_W hB _ _ (by decide), fm_by_W hB _ _ (by decide), fm_by_W hB _ _ (by decide), fm_so, if_neg hne]
  by_cases e : fm_tag B x = 1
  · rw [if_pos e, if_pos ⟨by omega, e⟩]; rfl
  · rw [if_neg e, if_neg (fun z => e z.2)]; rfl
