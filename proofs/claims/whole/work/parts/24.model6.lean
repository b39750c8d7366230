/-! THE MODEL, sixth part: answers -/
def fm_ab (B : Nat → Nat) (s : Nat) (v : Nat) : Int32 := if v = 0 then nI (fm_HF B 2) else if v = 1 then nI (fm_HF B 3) else if v = 2 then nI s else if v = 3 then nI (fm_WO B 7) >>> (nI 4 &&& 31) else if v = 4 then nI (fm_WD B 9) else if v = 5 then fm_eg B else if fm_ep B < 0 then nI 0 else nI 1
def fm_of (B : Nat → Nat) (s c v : Nat) : Int32 := if v = 4 then nI (fm_tag B c) else if v = 5 then nI (fm_rest B c) else fm_sc B s (2 + v) (fm_pl B c v)
def fm_par (B : Nat → Nat) (s i : Nat) : Int32 := if 1 < i then fm_sc B s 9 (i - 1) else fm_W B 9 0 >>> (nI 4 &&& 31)
theorem fm_thI_t {B : Nat → Nat} {c : Int32} (h : fm_thI B c = true) : ∃ n : Nat, n < 2 ^ 31 ∧ c = nI n ∧ fm_th B n = true := by
  unfold fm_thI at h
  obtain ⟨h1, h2⟩ := Bool.and_eq_true_iff.mp h
  obtain ⟨n, hn, rfl⟩ := nI_of (of_decide_eq_true h1)
  rw [nI_clamp hn] at h2
  exact ⟨n, hn, rfl, h2⟩
/-- the widths of items together -/
def fm_tot (B : Nat → Nat) (s : Nat) (kd wd : Nat → Int32) : Nat → Int64
  | 0 => 0
  | k + 1 => fm_tot B s kd wd k + (if kd k = nI 257 then (wd k).toInt64 else (fm_sc B s 2 (fm_pl B (kd k).toNatClampNeg 0)).toInt64)
theorem fm_le256 {B : Nat → Nat} (hL : fm_Len B) {x : Nat} (h : x = 256 ∨ fm_th B x = true) : x ≤ 256 := by
  rcases h with h | h
  · omega
  · have h1 := fm_th_in h
    have h2 := hL.2.2.1
    omega
theorem fm_may {B : Nat → Nat} (hL : fm_Len B) {x : Nat} (h : x = 256 ∨ fm_th B x = true) : (decide (nI x = nI 256) || fm_thI B (nI x)) = true := by
  have h1 := fm_le256 hL h
  rcases h with h | h
  · rw [h]; rfl
  · rw [fm_thI_n (by omega), h, Bool.or_true]
theorem fm_seek_in {B : Nat → Nat} (h : fm_V B) (nx : Nat) : ∀ (n q k : Nat), q < fm_WD B 6 → fm_seek B nx n q = some k → k < fm_WD B 6 := by
  intro n
  induction n with
  | zero => intro q k _ h2; cases h2
  | succ n ih =>
    intro q k hq h2
    unfold fm_seek at h2
    by_cases c1 : 128 < fm_AT B 6 q 0
    · rw [if_pos c1] at h2; cases h2
    · rw [if_neg c1] at h2
      by_cases c2 : fm_AT B 6 q 1 = nx
      · rw [if_pos c2] at h2; cases h2; exact hq
      · rw [if_neg c2] at h2
        by_cases c3 : fm_AT B 6 q 0 = 128
        · rw [if_pos c3] at h2; cases h2
        · rw [if_neg c3] at h2
          exact ih _ k (fm_V_next h hq (by omega)) h2
theorem fm_V_fd {B : Nat → Nat} (h : fm_V B) {x r k : Nat} (hx : x = 256 ∨ fm_th B x = true) (hk : fm_fd B x r = some k) : k < fm_WD B 6 := by
  unfold fm_fd at hk
  cases h1 : fm_so B x with
  | none => rw [h1] at hk; cases hk
  | some q =>
    cases h2 : fm_no B r with
    | none => rw [h1, h2] at hk; cases hk
    | some nx =>
      rw [h1, h2] at hk
      exact fm_seek_in h nx _ _ _ (fm_V_at0 h (fm_V_so h hx h1)) hk
