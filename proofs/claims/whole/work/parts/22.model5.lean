/-! THE MODEL, fifth part: the file -/
theorem fm_bI_fit (b : Bool) : fits .boolean (.int (fm_bI b)) = true := by cases b <;> rfl
theorem fm_m1 (x : Int32) : x + Int32.ofInt (-1) = x - nI 1 := by
  rw [Int32.sub_eq_add_neg]
  rfl
/-- byte i of a long -/
def fm_lb (X : Int64) (i : Nat) : Nat := X.toBitVec.toNat / 2 ^ (8 * i) % 256
theorem fm_lb_lt (X : Int64) (i : Nat) : fm_lb X i < 256 := Nat.mod_lt _ (by decide)
/-- the class's words with byte n set to b -/
def fm_pw (x : Int32) (n b : Nat) : Int32 := (x &&& ((nI 255 <<< (nI (24 - 8 * (n % 4)) &&& 31)) ^^^ (-1))) ||| (nI b <<< (nI (24 - 8 * (n % 4)) &&& 31))
def fm_pu (w : Nat → Int32) (n b : Nat) : Nat → Int32 := upd w (n / 4) (fm_pw (w (n / 4)) n b)
def fm_app (w : Nat → Int32) (n : Nat) (X : Int64) : Nat → Nat → Int32
  | 0 => w
  | k + 1 => fm_app (fm_pu w n (fm_lb X k)) (n + 1) X k
/-- a byte as the reference stores it -/
def fm_sb (X : Int64) (k : Nat) : Int32 := ((X >>> ((nI (8 * k)).toInt64 &&& 63)).toInt32).toInt8.toInt32
def fm_apr (f : Nat → Int32) (n : Nat) (X : Int64) : Nat → Nat → Int32
  | 0 => f
  | k + 1 => fm_apr (upd f n (fm_sb X k)) (n + 1) X k
def bt (x : Int32) (i : Nat) : Bool := x.toBitVec.getLsbD i
theorem b_ext {x y : Int32} (h : ∀ i, i < 32 → bt x i = bt y i) : x = y := Int32.toBitVec_inj.mp (BitVec.eq_of_getLsbD_eq (fun i hi => h i hi))
theorem b_or (x y : Int32) (i : Nat) : bt (x ||| y) i = (bt x i || bt y i) := by unfold bt; rw [Int32.toBitVec_or, BitVec.getLsbD_or]
theorem b_and (x y : Int32) (i : Nat) : bt (x &&& y) i = (bt x i && bt y i) := by unfold bt; rw [Int32.toBitVec_and, BitVec.getLsbD_and]
theorem b_xor (x y : Int32) (i : Nat) : bt (x ^^^ y) i = (bt x i ^^ bt y i) := by unfold bt; rw [Int32.toBitVec_xor, BitVec.getLsbD_xor]
theorem b_big {x : Int32} {i : Nat} (h : 32 ≤ i) : bt x i = false := BitVec.getLsbD_of_ge _ _ h
theorem b_255 (i : Nat) : bt 255 i = decide (i < 8) := by
  rcases Nat.lt_or_ge i 32 with h | h
  · exact (by decide +kernel : ∀ i, i < 32 → bt 255 i = decide (i < 8)) i h
  · rw [b_big h, decide_eq_false (by omega)]
theorem b_m1 : ∀ i, i < 32 → bt (-1) i = true := by decide +kernel
theorem b_0 (i : Nat) : bt 0 i = false := BitVec.getLsbD_zero
theorem s_l : ∀ n, n < 32 → ((nI n &&& 31).toBitVec.smod 32).toNat = n := by decide +kernel
theorem s_u : ∀ n, n < 32 → (((nI n).toUInt32 &&& Int32.toUInt32 31).toBitVec % 32).toNat = n := by decide +kernel
theorem b_shl (n : Nat) (hn : n < 32) (x : Int32) {i : Nat} (hi : i < 32) : bt (x <<< (nI n &&& 31)) i = (decide (n ≤ i) && bt x (i - n)) := by
  unfold bt
  rw [Int32.toBitVec_shiftLeft]
  show (x.toBitVec <<< ((nI n &&& 31).toBitVec.smod 32).toNat).getLsbD i = _
  rw [s_l n hn, BitVec.getLsbD_shiftLeft]
  rcases Nat.lt_or_ge i n with h | h
  · simp [h, Nat.not_le.mpr h]
  · simp [hi, h, Nat.not_lt.mpr h]
theorem bp_b (x : Int32) : x.toInt8.toInt32 &&& 255 = x &&& 255 := by
  apply Int32.toBitVec_inj.mp
  rw [Int32.toBitVec_and, Int32.toBitVec_and, Int8.toBitVec_toInt32, Int32.toBitVec_toInt8]
  apply BitVec.eq_of_getLsbD_eq
  intro i hi
  rw [BitVec.getLsbD_and, BitVec.getLsbD_and]
  have hm : ∀ i < 32, 8 ≤ i → (255 : Int32).toBitVec.getLsbD i = false := by decide
  rcases Nat.lt_or_ge i 8 with z | z
  · rw [BitVec.getLsbD_signExtend, BitVec.getLsbD_signExtend, if_pos z, if_pos hi]
    simp only [z, hi, decide_true, Bool.true_and]
  · rw [hm i hi z]; simp
theorem wb_tb (n : Nat) : (lN n).toBitVec = BitVec.ofNat 64 n := rfl
theorem wb_inj {a b : Int64} (h : a.toBitVec = b.toBitVec) : a = b := Int64.toBitVec_inj.mp h
theorem wb_tn {n : Nat} (h : n < 2 ^ 64) : (lN n).toBitVec.toNat = n := by rw [wb_tb, BitVec.toNat_ofNat, Nat.mod_eq_of_lt h]
theorem wb_of (x : Int64) : ∃ n, n < 2 ^ 64 ∧ x = lN n := ⟨x.toBitVec.toNat, x.toBitVec.isLt, wb_inj (by rw [wb_tb]; simp)⟩
theorem wb_of32 (x : Int32) : ∃ n, n < 2 ^ 32 ∧ x = nI n := ⟨x.toBitVec.toNat, x.toBitVec.isLt, Int32.toBitVec_inj.mp (by show _ = BitVec.ofNat 32 _; simp)⟩
theorem wb_c : ∀ k, k < 64 → ((nI k).toInt64 &&& 63) = lN k := by decide +kernel
theorem wb_cu : ∀ k, k < 64 → ((nI k).toInt64.toUInt64 &&& Int64.toUInt64 63) = UInt64.ofNat k := by decide +kernel
theorem wb_sm : ∀ k, k < 64 → (BitVec.ofNat 64 k).smod 64 = BitVec.ofNat 64 k := by decide +kernel
theorem wb_pw {a b : Nat} (h : a ≤ b) : 2 ^ b = 2 ^ a * 2 ^ (b - a) := by rw [← Nat.pow_add]; congr 1; omega
theorem wb_lt2 {a b : Nat} (h : a < b) : 2 ^ a < 2 ^ b := Nat.pow_lt_pow_right (by decide) h
theorem wb_mod (n : Nat) : lN n = lN (n % 2 ^ 64) := wb_inj (by rw [wb_tb, wb_tb]; apply BitVec.eq_of_toNat_eq; rw [BitVec.toNat_ofNat, BitVec.toNat_ofNat, Nat.mod_mod])
theorem wb_shr {n k : Nat} (hn : n < 2 ^ 64) (hk : k < 64) : ((lN n).toUInt64 >>> ((nI k).toInt64.toUInt64 &&& Int64.toUInt64 63)).toInt64 = lN (n / 2 ^ k) := by
  rw [wb_cu k hk]
  apply wb_inj
  apply BitVec.eq_of_toNat_eq
  show ((lN n).toUInt64 >>> UInt64.ofNat k).toNat = (BitVec.ofNat 64 _).toNat
  have h1 : (UInt64.ofNat k).toNat = k := by
    show (BitVec.ofNat 64 k).toNat = k
    rw [BitVec.toNat_ofNat, Nat.mod_eq_of_lt (by omega)]
  have h2 : (lN n).toUInt64.toNat = n := wb_tn hn
  rw [UInt64.toNat_shiftRight, h1, h2, Nat.mod_eq_of_lt hk, Nat.shiftRight_eq_div_pow, BitVec.toNat_ofNat, Nat.mod_eq_of_lt (Nat.lt_of_le_of_lt (Nat.div_le_self _ _) hn)]

/-- a byte by its bits -/
theorem fm_by_bit (x : Int32) {j : Nat} (hj : j < 4) (i : Nat) : (fm_by x j).testBit i = (decide (i < 8) && bt x (24 - 8 * j + i)) := by
  unfold fm_by fm_tn bt
  rw [← Nat.shiftRight_eq_div_pow, show (256 : Nat) = 2 ^ 8 from rfl, Nat.testBit_mod_two_pow, Nat.testBit_shiftRight]
  rfl
theorem fm_nI_bit (b i : Nat) (hi : i < 32) : bt (nI b) i = b.testBit i := by
  unfold bt
  show (BitVec.ofNat 32 b).getLsbD i = _
  rw [BitVec.getLsbD_ofNat]
  simp [hi]
theorem fm_pw_by (x : Int32) {n b j : Nat} (hb : b < 256) (hj : j < 4) : fm_by (fm_pw x n b) j = if j = n % 4 then b else fm_by x j := by
  have ht : n % 4 < 4 := Nat.mod_lt _ (by decide)
  unfold fm_pw
  generalize n % 4 = t at ht
  apply Nat.eq_of_testBit_eq
  intro i
  rw [fm_by_bit _ hj]
  rcases Nat.lt_or_ge i 8 with h8 | h8
  · have hp : 24 - 8 * j + i < 32 := by omega
    rw [b_or, b_and, b_xor, b_shl (24 - 8 * t) (by omega) _ hp, b_shl (24 - 8 * t) (by omega) _ hp, b_m1 _ hp, show nI 255 = 255 from rfl, b_255, decide_eq_true h8, Bool.true_and]
    by_cases e : j = t
    · subst e
      rw [if_pos rfl, show 24 - 8 * j + i - (24 - 8 * j) = i by omega, decide_eq_true (show 24 - 8 * j ≤ 24 - 8 * j + i by omega), decide_eq_true h8, fm_nI_bit b i (by omega)]
      simp
    · rw [if_neg e, fm_by_bit x hj, decide_eq_true h8, Bool.true_and]
      rcases Nat.lt_or_ge j t with h | h
      · rw [decide_eq_true (show 24 - 8 * t ≤ 24 - 8 * j + i by omega), decide_eq_false (show ¬ 24 - 8 * j + i - (24 - 8 * t) < 8 by omega), fm_nI_bit b _ (by omega), Nat.testBit_lt_two_pow (Nat.lt_of_lt_of_le hb (show 256 ≤ 2 ^ (24 - 8 * j + i - (24 - 8 * t)) from Nat.pow_le_pow_right (n := 2) (by decide) (show 8 ≤ _ by omega)))]
        simp
      · rw [decide_eq_false (show ¬ 24 - 8 * t ≤ 24 - 8 * j + i by omega)]
        simp
  · rw [decide_eq_false (by omega), Bool.false_and]
    symm
    have h256 : ∀ y : Nat, y < 256 → y.testBit i = false := fun y hy => Nat.testBit_lt_two_pow (Nat.lt_of_lt_of_le hy (show 256 ≤ 2 ^ i from Nat.pow_le_pow_right (n := 2) (by decide) h8))
    split
    · exact h256 b hb
    · exact h256 _ (fm_by_lt x j)
theorem fm_lbI (X : Int64) {k : Nat} (hk : k < 8) : (((X.toUInt64 >>> ((nI (8 * k)).toInt64.toUInt64 &&& Int64.toUInt64 63)).toInt64).toInt32 &&& nI 255) = nI (fm_lb X k) := by
  obtain ⟨N, hN, rfl⟩ := wb_of X
  rw [wb_shr hN (by omega), lN_i, show nI 255 = 255 from rfl]
  rw [show nI (N / 2 ^ (8 * k)) &&& 255 = nI ((nI (N / 2 ^ (8 * k))).toBitVec.toNat % 2 ^ 8) from pk_and _ 8 (by decide)]
  refine congrArg nI ?_
  unfold fm_lb
  rw [wb_tn hN]
  show (BitVec.ofNat 32 (N / 2 ^ (8 * k))).toNat % 2 ^ 8 = _
  rw [BitVec.toNat_ofNat]
  omega
theorem fm_sbR (X : Int64) {k : Nat} (hk : k < 8) : (fm_sb X k).toBitVec.toNat % 256 = fm_lb X k := by
  have h1 : fm_sb X k &&& 255 = nI (fm_lb X k) := by
    unfold fm_sb
    rw [bp_b]
    rw [show (X >>> ((nI (8 * k)).toInt64 &&& 63)).toInt32 &&& 255 = nI ((X >>> ((nI (8 * k)).toInt64 &&& 63)).toInt32.toBitVec.toNat % 2 ^ 8) from pk_and _ 8 (by decide)]
    refine congrArg nI ?_
    rw [wb_c (8 * k) (by omega)]
    apply Nat.eq_of_testBit_eq
    intro i
    rw [Nat.testBit_mod_two_pow]
    unfold fm_lb
    rw [show (256 : Nat) = 2 ^ 8 from rfl, Nat.testBit_mod_two_pow, ← Nat.shiftRight_eq_div_pow, Nat.testBit_shiftRight]
    rcases Nat.lt_or_ge i 8 with h8 | h8
    · rw [decide_eq_true h8, Bool.true_and, Bool.true_and]
      show (X >>> lN (8 * k)).toInt32.toBitVec.getLsbD i = X.toBitVec.getLsbD (8 * k + i)
      rw [Int64.toBitVec_toInt32, BitVec.getLsbD_signExtend, Int64.toBitVec_shiftRight]
      show (decide (i < 32) && if i < 64 then (X.toBitVec.sshiftRight ((lN (8 * k)).toBitVec.smod 64).toNat).getLsbD i else _) = _
      rw [decide_eq_true (show i < 32 by omega), Bool.true_and, if_pos (by omega), wb_tb, wb_sm (8 * k) (by omega), BitVec.toNat_ofNat, Nat.mod_eq_of_lt (by omega), BitVec.getLsbD_sshiftRight]
      rw [if_pos (by omega)]
      simp [show ¬ 64 ≤ i by omega]
    · rw [decide_eq_false (by omega), Bool.false_and, Bool.false_and]
  have h2 : fm_sb X k &&& 255 = nI ((fm_sb X k).toBitVec.toNat % 2 ^ 8) := pk_and _ 8 (by decide)
  have h3 := (nI_eq (by omega) (by have := fm_lb_lt X k; omega)).mp (h2.symm.trans h1)
  exact h3
