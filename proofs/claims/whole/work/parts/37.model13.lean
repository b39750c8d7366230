/-! ROWS: a loop with six variables; THE MODEL, thirteenth part: the class's line -/
section FMW6
variable {p : Program} {l : Launch} {e : Env} {R : Room} {s : State} {m : MethodId} {args : Array Value} {below : List Frame} {meth : Method} {c : Code} {H H0 : Heap} {locs : List Loc} {cells slots : Nat} {Q : State → Prop} {D : va_G} {nL pc : Nat} {A : Nat → Prop}
theorem fm_wloop6 {A1 A2 A3 A4 A5 A6 : Type} (LV : A1 → A2 → A3 → A4 → A5 → A6 → List (Nat × Value)) (WS : A1 → A2 → A3 → A4 → A5 → A6 → va_W) (I : A1 → A2 → A3 → A4 → A5 → A6 → Prop) (μ : A1 → A2 → A3 → A4 → A5 → A6 → Nat)
    (step : ∀ (a1 : A1) (a2 : A2) (a3 : A3) (a4 : A4) (a5 : A5) (a6 : A6), I a1 a2 a3 a4 a5 a6 → (∀ (b1 : A1) (b2 : A2) (b3 : A3) (b4 : A4) (b5 : A5) (b6 : A6) (H : Heap) (locs : List Loc) (ls : Array Slot), I b1 b2 b3 b4 b5 b6 → μ b1 b2 b3 b4 b5 b6 < μ a1 a2 a3 a4 a5 a6 → va_P D classes (WS b1 b2 b3 b4 b5 b6) H → va_D A (WS b1 b2 b3 b4 b5 b6) → va_S A H0 H locs → lv_has ls nL (LV b1 b2 b3 b4 b5 b6) → W p l e R s m args below meth c H locs cells slots Q (F0 m pc ls [])) → ∀ (H : Heap) (locs : List Loc) (ls : Array Slot), va_P D classes (WS a1 a2 a3 a4 a5 a6) H → va_D A (WS a1 a2 a3 a4 a5 a6) → va_S A H0 H locs → lv_has ls nL (LV a1 a2 a3 a4 a5 a6) → W p l e R s m args below meth c H locs cells slots Q (F0 m pc ls []))
    (a1 : A1) (a2 : A2) (a3 : A3) (a4 : A4) (a5 : A5) (a6 : A6) (h : I a1 a2 a3 a4 a5 a6) (hP : va_P D classes (WS a1 a2 a3 a4 a5 a6) H) (hD : va_D A (WS a1 a2 a3 a4 a5 a6)) (hS : va_S A H0 H locs) (ls : Array Slot) (hl : lv_has ls nL (LV a1 a2 a3 a4 a5 a6)) : W p l e R s m args below meth c H locs cells slots Q (F0 m pc ls []) :=
  fm_wloop1 (A1 := A1 × A2 × A3 × A4 × A5 × A6) (fun q => LV q.1 q.2.1 q.2.2.1 q.2.2.2.1 q.2.2.2.2.1 q.2.2.2.2.2) (fun q => WS q.1 q.2.1 q.2.2.1 q.2.2.2.1 q.2.2.2.2.1 q.2.2.2.2.2) (fun q => I q.1 q.2.1 q.2.2.1 q.2.2.2.1 q.2.2.2.2.1 q.2.2.2.2.2) (fun q => μ q.1 q.2.1 q.2.2.1 q.2.2.2.1 q.2.2.2.2.1 q.2.2.2.2.2) (fun q hq ih H locs ls => step q.1 q.2.1 q.2.2.1 q.2.2.2.1 q.2.2.2.2.1 q.2.2.2.2.2 hq (fun b1 b2 b3 b4 b5 b6 H2 locs2 ls2 h1 h2 h3 h4 h5 h6 => ih (b1, b2, b3, b4, b5, b6) H2 locs2 ls2 h1 h2 h3 h4 h5 h6) H locs ls) (a1, a2, a3, a4, a5, a6) h hP hD hS ls hl
end FMW6
/-- pending places, the next one on top -/
def fm_PD (pd : Nat → Int32) (T : List Nat) : Prop := ∀ (j q : Nat), T[j]? = some q → pd (T.length - 1 - j) = nI q
theorem fm_PD_nil (pd : Nat → Int32) : fm_PD pd [] := fun j q h => by simp at h
theorem fm_PD_push {pd : Nat → Int32} {T : List Nat} (h : fm_PD pd T) (c : Nat) : fm_PD (upd pd T.length (nI c)) (c :: T) := by
  intro j q hq
  unfold upd
  cases j with
  | zero =>
    cases hq
    rw [if_pos (by simp)]
  | succ j =>
    rw [List.getElem?_cons_succ] at hq
    have hj := (List.getElem?_eq_some_iff.mp hq).1
    rw [List.length_cons, if_neg (by omega), show T.length + 1 - 1 - (j + 1) = T.length - 1 - j by omega]
    exact h j q hq
theorem fm_PD_drop {pd : Nat → Int32} {T : List Nat} (h : fm_PD pd T) (n : Nat) : fm_PD pd (T.drop n) := by
  intro j q hq
  rw [List.getElem?_drop] at hq
  have h1 := h (n + j) q hq
  rw [List.length_drop, show T.length - n - 1 - j = T.length - 1 - (n + j) by omega]
  exact h1
/-- items, as the class holds them -/
def fm_CL (vl kn : Nat → Int32) (L : List (Nat × Int32)) : Prop := ∀ (j : Nat) (q : Nat × Int32), L[j]? = some q → vl j = (if q.1 = 257 then q.2 else nI q.1) ∧ kn j = fm_bI (decide (q.1 = 257))
theorem fm_CL_nil (vl kn : Nat → Int32) : fm_CL vl kn [] := fun j q h => by simp at h
theorem fm_CL_app {vl kn : Nat → Int32} {L : List (Nat × Int32)} (h : fm_CL vl kn L) (q : Nat × Int32) {v : Int32} {b : Bool} (hv : v = (if q.1 = 257 then q.2 else nI q.1)) (hb : b = decide (q.1 = 257)) : fm_CL (upd vl L.length v) (upd kn L.length (fm_bI b)) (L ++ [q]) := by
  intro j z hz
  unfold upd
  rcases Nat.lt_or_ge j L.length with h1 | h1
  · rw [List.getElem?_append_left h1] at hz
    have hj : ¬ j = L.length := by omega
    simp only [if_neg hj]
    exact h j z hz
  · rw [List.getElem?_append_right h1] at hz
    have h2 := (List.getElem?_eq_some_iff.mp hz).1
    have h3 : j = L.length := by simp at h2; omega
    subst h3
    rw [Nat.sub_self] at hz
    cases hz
    rw [if_pos rfl, if_pos rfl, hv, hb]
    exact ⟨rfl, rfl⟩
theorem fm_its_app (D E : List (Nat × Int32)) : fm_its (D ++ E) = fm_its D ++ fm_its E := by unfold fm_its; rw [List.filter_append]
theorem fm_its_len (D : List (Nat × Int32)) : (fm_its D).length ≤ D.length := List.length_filter_le _ _
theorem fm_its_take {T : List Nat} {i x : Nat} (hx : T[i]? = some x) : fm_its (fm_c0 (T.take (i + 1))) = fm_its (fm_c0 (T.take i)) ++ fm_its [(x, 0)] := by
  rw [List.take_add_one, hx, fm_c0_app, fm_its_app]
  rfl
theorem fm_its_one {x : Nat} (h : ¬ x = 256) : fm_its [((x, 0) : Nat × Int32)] = [(x, 0)] := by rw [fm_its_c h]; rfl
theorem fm_its_none {x : Nat} (h : x = 256) : fm_its [((x, 0) : Nat × Int32)] = [] := by rw [fm_its_d h]; rfl
theorem fm_eg_m1 {B : Nat → Nat} (hB : ∀ i, B i < 256) : fm_eg B = -1 ↔ fm_eg B < 0 := by
  unfold fm_eg
  have h := fm_AT_lt hB 6 0 1
  split
  · constructor
    · intro z
      exact absurd (show nI (fm_AT B 6 0 1) < 0 by rw [z]; decide) (nI_pos (by omega))
    · intro z
      exact absurd z (nI_pos (by omega))
  · exact ⟨fun _ => by decide, fun _ => rfl⟩
theorem fm_row_drop (r : Nat → Nat) {j n : Nat} (h : j < n) : (fm_row r n).drop j = r j :: (fm_row r n).drop (j + 1) := by
  have h1 : j < (fm_row r n).length := by rw [fm_row_len]; exact h
  have h2 : (fm_row r n)[j]? = some (r j) := by
    unfold fm_row
    rw [List.getElem?_map, List.getElem?_range h]
    rfl
  rw [List.drop_eq_getElem_cons h1, (List.getElem?_eq_some_iff.mp h2).2]
theorem fm_minI {a b : Nat} (ha : a < 2 ^ 31) (hb : b < 2 ^ 31) : (if nI b < nI a then nI b else nI a) = nI (min a b) := by
  by_cases h : b < a
  · rw [if_pos ((nI_ltI hb ha).mpr h), Nat.min_eq_right (by omega)]
  · rw [if_neg (fun z => h ((nI_ltI hb ha).mp z)), Nat.min_eq_left (by omega)]
theorem fm_new_256 {op z x r : Nat} {R : List Nat} (h : ∀ c ∈ (x :: r :: R), c ≤ 256) (hz : z ≤ 256) : ∀ c ∈ fm_new op z x r R, c ≤ 256 := by
  intro c hc
  unfold fm_new at hc
  rcases List.mem_append.mp hc with h1 | h1
  · split at h1
    · exact h c (by simp at h1; simp [h1])
    · cases h1
  · rcases List.mem_cons.mp h1 with h2 | h2
    · rw [h2]; exact hz
    · rcases List.mem_append.mp h2 with h3 | h3
      · split at h3
        · exact h c (by simp at h3; simp [h3])
        · cases h3
      · exact h c (by simp [h3])
