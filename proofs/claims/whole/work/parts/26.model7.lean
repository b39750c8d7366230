/-! THE MODEL, seventh part: rows of items in arrays -/
/-- places behind k, up to n, hold what stood one place before -/
def fm_sh (a : Nat → Int32) (n k : Nat) : Nat → Int32 := fun j => if k < j ∧ j ≤ n then a (j - 1) else a j
theorem fm_sh_0 (a : Nat → Int32) (n : Nat) : fm_sh a n n = a := by
  funext j
  unfold fm_sh
  rw [if_neg (by omega)]
theorem fm_sh_s (a : Nat → Int32) {n k : Nat} (hk : k < n) : upd (fm_sh a n (k + 1)) (k + 1) (fm_sh a n (k + 1) (k + 1 - 1)) = fm_sh a n k := by
  funext j
  unfold upd fm_sh
  by_cases e : j = k + 1
  · subst e
    rw [if_pos rfl, if_neg (by omega), if_pos (by omega)]
  · rw [if_neg e]
    by_cases e2 : k + 1 < j ∧ j ≤ n
    · rw [if_pos e2, if_pos (by omega)]
    · rw [if_neg e2, if_neg (by omega)]
def fm_ins (a : Nat → Int32) (n i : Nat) (v : Int32) : Nat → Int32 := upd (fm_sh a n i) i v
/-- places i .. k hold what stood one place behind -/
def fm_rm (a : Nat → Int32) (i k : Nat) : Nat → Int32 := fun j => if i ≤ j ∧ j < k then a (j + 1) else a j
theorem fm_rm_0 (a : Nat → Int32) (i : Nat) : fm_rm a i i = a := by
  funext j
  unfold fm_rm
  rw [if_neg (by omega)]
theorem fm_rm_s (a : Nat → Int32) {i k : Nat} (hk : i ≤ k) : upd (fm_rm a i k) k (fm_rm a i k (k + 1)) = fm_rm a i (k + 1) := by
  funext j
  unfold upd fm_rm
  by_cases e : j = k
  · subst e
    rw [if_pos rfl, if_neg (by omega), if_pos (by omega)]
  · rw [if_neg e]
    by_cases e2 : i ≤ j ∧ j < k
    · rw [if_pos e2, if_pos (by omega)]
    · rw [if_neg e2, if_neg (by omega)]
/-- the first n places of one array in another -/
def fm_cp (f g : Nat → Int32) (n : Nat) : Nat → Int32 := fun j => if j < n then f j else g j
theorem fm_cp_0 (f g : Nat → Int32) : fm_cp f g 0 = g := by
  funext j
  unfold fm_cp
  rw [if_neg (by omega)]
theorem fm_cp_s (f g : Nat → Int32) (k : Nat) : upd (fm_cp f g k) k (f k) = fm_cp f g (k + 1) := by
  funext j
  unfold upd fm_cp
  by_cases e : j = k
  · subst e
    rw [if_pos rfl, if_pos (by omega)]
  · rw [if_neg e]
    by_cases e2 : j < k
    · rw [if_pos e2, if_pos (by omega)]
    · rw [if_neg e2, if_neg (by omega)]
/-- every place holds a byte -/
def fm_Byt (f : Nat → Int32) : Prop := ∀ j, vp_nar .byte (f j) = f j
/-- a list of items, each a kind and a width, in two arrays -/
def fm_RL (kd wd : Nat → Int32) (L : List (Nat × Int32)) : Prop := ∀ (j : Nat) (q : Nat × Int32), L[j]? = some q → kd j = nI q.1 ∧ wd j = q.2
theorem fm_RL_ins {kd wd : Nat → Int32} {D T : List (Nat × Int32)} (h : fm_RL kd wd (D ++ T)) (a : Nat) (w : Int32) : fm_RL (fm_ins kd (D ++ T).length D.length (nI a)) (fm_ins wd (D ++ T).length D.length w) (D ++ (a, w) :: T) := by
  intro j q hq
  unfold fm_ins upd fm_sh
  by_cases e : j = D.length
  · subst e
    rw [List.getElem?_append_right (Nat.le_refl _), Nat.sub_self] at hq
    cases hq
    rw [if_pos rfl, if_pos rfl]
    exact ⟨rfl, rfl⟩
  · rw [if_neg e, if_neg e]
    rcases Nat.lt_or_ge j D.length with h1 | h1
    · rw [if_neg (by omega), if_neg (by omega)]
      rw [List.getElem?_append_left h1] at hq
      exact h j q (by rw [List.getElem?_append_left h1]; exact hq)
    · rw [List.getElem?_append_right h1, show j - D.length = (j - D.length - 1) + 1 by omega, List.getElem?_cons_succ] at hq
      have h2 : (D ++ T)[j - 1]? = some q := by rw [List.getElem?_append_right (by omega), show j - 1 - D.length = j - D.length - 1 by omega]; exact hq
      have h3 := (List.getElem?_eq_some_iff.mp h2).1
      rw [if_pos (by omega), if_pos (by omega)]
      exact h (j - 1) q h2
theorem fm_RL_rm {kd wd : Nat → Int32} {D T : List (Nat × Int32)} {y : Nat × Int32} (h : fm_RL kd wd (D ++ y :: T)) : fm_RL (fm_rm kd D.length ((D ++ y :: T).length - 1)) (fm_rm wd D.length ((D ++ y :: T).length - 1)) (D ++ T) := by
  intro j q hq
  unfold fm_rm
  have hlt := (List.getElem?_eq_some_iff.mp hq).1
  rw [List.length_append] at hlt
  rw [List.length_append, List.length_cons]
  rcases Nat.lt_or_ge j D.length with h1 | h1
  · rw [if_neg (by omega), if_neg (by omega)]
    rw [List.getElem?_append_left h1] at hq
    exact h j q (by rw [List.getElem?_append_left h1]; exact hq)
  · rw [if_pos (by omega), if_pos (by omega)]
    rw [List.getElem?_append_right h1] at hq
    exact h (j + 1) q (by rw [List.getElem?_append_right (by omega), show j + 1 - D.length = (j - D.length) + 1 by omega, List.getElem?_cons_succ]; exact hq)
