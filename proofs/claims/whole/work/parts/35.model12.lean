/-! ROWS: loops with four and five variables; THE MODEL, twelfth part: a whole row -/
section FMW4
variable {p : Program} {l : Launch} {e : Env} {R : Room} {s : State} {m : MethodId} {args : Array Value} {below : List Frame} {meth : Method} {c : Code} {H H0 : Heap} {locs : List Loc} {cells slots : Nat} {Q : State → Prop} {D : va_G} {nL pc : Nat} {A : Nat → Prop}
theorem fm_wloop4 {A1 A2 A3 A4 : Type} (LV : A1 → A2 → A3 → A4 → List (Nat × Value)) (WS : A1 → A2 → A3 → A4 → va_W) (I : A1 → A2 → A3 → A4 → Prop) (μ : A1 → A2 → A3 → A4 → Nat)
    (step : ∀ (a1 : A1) (a2 : A2) (a3 : A3) (a4 : A4), I a1 a2 a3 a4 → (∀ (b1 : A1) (b2 : A2) (b3 : A3) (b4 : A4) (H : Heap) (locs : List Loc) (ls : Array Slot), I b1 b2 b3 b4 → μ b1 b2 b3 b4 < μ a1 a2 a3 a4 → va_P D classes (WS b1 b2 b3 b4) H → va_D A (WS b1 b2 b3 b4) → va_S A H0 H locs → lv_has ls nL (LV b1 b2 b3 b4) → W p l e R s m args below meth c H locs cells slots Q (F0 m pc ls [])) → ∀ (H : Heap) (locs : List Loc) (ls : Array Slot), va_P D classes (WS a1 a2 a3 a4) H → va_D A (WS a1 a2 a3 a4) → va_S A H0 H locs → lv_has ls nL (LV a1 a2 a3 a4) → W p l e R s m args below meth c H locs cells slots Q (F0 m pc ls []))
    (a1 : A1) (a2 : A2) (a3 : A3) (a4 : A4) (h : I a1 a2 a3 a4) (hP : va_P D classes (WS a1 a2 a3 a4) H) (hD : va_D A (WS a1 a2 a3 a4)) (hS : va_S A H0 H locs) (ls : Array Slot) (hl : lv_has ls nL (LV a1 a2 a3 a4)) : W p l e R s m args below meth c H locs cells slots Q (F0 m pc ls []) :=
  fm_wloop1 (A1 := A1 × A2 × A3 × A4) (fun q => LV q.1 q.2.1 q.2.2.1 q.2.2.2) (fun q => WS q.1 q.2.1 q.2.2.1 q.2.2.2) (fun q => I q.1 q.2.1 q.2.2.1 q.2.2.2) (fun q => μ q.1 q.2.1 q.2.2.1 q.2.2.2) (fun q hq ih H locs ls => step q.1 q.2.1 q.2.2.1 q.2.2.2 hq (fun b1 b2 b3 b4 H2 locs2 ls2 h1 h2 h3 h4 h5 h6 => ih (b1, b2, b3, b4) H2 locs2 ls2 h1 h2 h3 h4 h5 h6) H locs ls) (a1, a2, a3, a4) h hP hD hS ls hl
theorem fm_wloop5 {A1 A2 A3 A4 A5 : Type} (LV : A1 → A2 → A3 → A4 → A5 → List (Nat × Value)) (WS : A1 → A2 → A3 → A4 → A5 → va_W) (I : A1 → A2 → A3 → A4 → A5 → Prop) (μ : A1 → A2 → A3 → A4 → A5 → Nat)
    (step : ∀ (a1 : A1) (a2 : A2) (a3 : A3) (a4 : A4) (a5 : A5), I a1 a2 a3 a4 a5 → (∀ (b1 : A1) (b2 : A2) (b3 : A3) (b4 : A4) (b5 : A5) (H : Heap) (locs : List Loc) (ls : Array Slot), I b1 b2 b3 b4 b5 → μ b1 b2 b3 b4 b5 < μ a1 a2 a3 a4 a5 → va_P D classes (WS b1 b2 b3 b4 b5) H → va_D A (WS b1 b2 b3 b4 b5) → va_S A H0 H locs → lv_has ls nL (LV b1 b2 b3 b4 b5) → W p l e R s m args below meth c H locs cells slots Q (F0 m pc ls [])) → ∀ (H : Heap) (locs : List Loc) (ls : Array Slot), va_P D classes (WS a1 a2 a3 a4 a5) H → va_D A (WS a1 a2 a3 a4 a5) → va_S A H0 H locs → lv_has ls nL (LV a1 a2 a3 a4 a5) → W p l e R s m args below meth c H locs cells slots Q (F0 m pc ls []))
    (a1 : A1) (a2 : A2) (a3 : A3) (a4 : A4) (a5 : A5) (h : I a1 a2 a3 a4 a5) (hP : va_P D classes (WS a1 a2 a3 a4 a5) H) (hD : va_D A (WS a1 a2 a3 a4 a5)) (hS : va_S A H0 H locs) (ls : Array Slot) (hl : lv_has ls nL (LV a1 a2 a3 a4 a5)) : W p l e R s m args below meth c H locs cells slots Q (F0 m pc ls []) :=
  fm_wloop1 (A1 := A1 × A2 × A3 × A4 × A5) (fun q => LV q.1 q.2.1 q.2.2.1 q.2.2.2.1 q.2.2.2.2) (fun q => WS q.1 q.2.1 q.2.2.1 q.2.2.2.1 q.2.2.2.2) (fun q => I q.1 q.2.1 q.2.2.1 q.2.2.2.1 q.2.2.2.2) (fun q => μ q.1 q.2.1 q.2.2.1 q.2.2.2.1 q.2.2.2.2) (fun q hq ih H locs ls => step q.1 q.2.1 q.2.2.1 q.2.2.2.1 q.2.2.2.2 hq (fun b1 b2 b3 b4 b5 H2 locs2 ls2 h1 h2 h3 h4 h5 h6 => ih (b1, b2, b3, b4, b5) H2 locs2 ls2 h1 h2 h3 h4 h5 h6) H locs ls) (a1, a2, a3, a4, a5) h hP hD hS ls hl
end FMW4
def fm_E1 (B : Nat → Nat) : List Nat := if fm_ep B < 0 then [] else [256]
def fm_E2 (B : Nat → Nat) : List Nat := if fm_eg B < 0 then [] else [256]
def fm_row (r : Nat → Nat) (n : Nat) : List Nat := (List.range n).map r
theorem fm_row_s (r : Nat → Nat) (n : Nat) : fm_row r (n + 1) = fm_row r n ++ [r n] := by
  unfold fm_row
  rw [List.range_succ, List.map_append]
  rfl
theorem fm_row_len (r : Nat → Nat) (n : Nat) : (fm_row r n).length = n := by unfold fm_row; simp
def fm_T0 (B : Nat → Nat) (r : Nat → Nat) (n : Nat) : List Nat := fm_E1 B ++ fm_row r n ++ fm_E2 B
theorem fm_E1_len (B : Nat → Nat) : (fm_E1 B).length ≤ 1 := by unfold fm_E1; split <;> simp
theorem fm_E2_len (B : Nat → Nat) : (fm_E2 B).length ≤ 1 := by unfold fm_E2; split <;> simp
theorem fm_T0_ok {B : Nat → Nat} {r : Nat → Nat} {n : Nat} (h : fm_all n (fun i => fm_th B (r i)) = true) : fm_ok B (fm_T0 B r n) := by
  intro c hc
  unfold fm_T0 at hc
  rcases List.mem_append.mp hc with h1 | h1
  · rcases List.mem_append.mp h1 with h2 | h2
    · unfold fm_E1 at h2
      split at h2
      · cases h2
      · left; simpa using h2
    · unfold fm_row at h2
      obtain ⟨i, hi, rfl⟩ := List.mem_map.mp h2
      exact Or.inr (fm_all_iff.mp h i (List.mem_range.mp hi))
  · unfold fm_E2 at h1
    split at h1
    · cases h1
    · left; simpa using h1
/-- the items of a row that is set; none: too many -/
def fm_set (B : Nat → Nat) (s : Nat) (T : List Nat) : Option (List (Nat × Int32)) := (fm_run B s 1000 [] T).map fm_its
def fm_sN (o : Option (List (Nat × Int32))) : Nat := match o with
  | none => 0
  | some L => L.length
def fm_sR (o : Option (List (Nat × Int32))) : Int32 := match o with
  | none => -2
  | some L => nI L.length
theorem fm_RL_e {kd wd : Nat → Int32} {L : List (Nat × Int32)} (h : fm_RL kd wd L) (a : Nat) : fm_RL (fm_ins kd L.length L.length (nI a)) (fm_ins wd L.length L.length (nI 0)) (L ++ [(a, 0)]) := by
  have h1 := fm_RL_ins (D := L) (T := []) (by rw [List.append_nil]; exact h) a 0
  rw [List.append_nil] at h1
  exact h1
theorem fm_RL_nil (kd wd : Nat → Int32) : fm_RL kd wd [] := fun j q h => by simp at h
theorem fm_c0_len (T : List Nat) : (fm_c0 T).length = T.length := by unfold fm_c0; simp
theorem fm_c0_app (T S : List Nat) : fm_c0 (T ++ S) = fm_c0 T ++ fm_c0 S := by unfold fm_c0; simp
theorem fm_run_end {B : Nat → Nat} {s n : Nat} {D : List (Nat × Int32)} {T : List Nat} (h : T.length ≤ 1) : fm_run B s n D T = some (D ++ fm_c0 T) := by
  cases n with
  | zero => unfold fm_run; rw [if_pos h]
  | succ n => unfold fm_run; rw [if_pos h]
theorem fm_run_s {B : Nat → Nat} {s a : Nat} {D : List (Nat × Int32)} {T : List Nat} (h : ¬ T.length ≤ 1) (ha : a < 1000) : fm_run B s (1000 - a) D T = fm_run B s (1000 - (a + 1)) (fm_stp B s D T).1 (fm_stp B s D T).2 := by
  rw [show 1000 - a = (1000 - (a + 1)) + 1 by omega]
  show (if T.length ≤ 1 then _ else _) = _
  rw [if_neg h]
theorem fm_run_0 {B : Nat → Nat} {s : Nat} {D : List (Nat × Int32)} {T : List Nat} (h : ¬ T.length ≤ 1) : fm_run B s 0 D T = none := by
  unfold fm_run
  rw [if_neg h]
theorem fm_two {T : List Nat} (h : 1 < T.length) : ∃ x r R, T = x :: r :: R := by
  match T, h with
  | x :: r :: R, _ => exact ⟨x, r, R, rfl⟩
theorem fm_RL_last {kd wd : Nat → Int32} {P Q : List (Nat × Int32)} {q : Nat × Int32} (h : fm_RL kd wd ((P ++ [q]) ++ Q)) : kd P.length = nI q.1 := by
  refine (h P.length q ?_).1
  rw [List.append_assoc, List.getElem?_append_right (Nat.le_refl _), Nat.sub_self]
  rfl
theorem fm_RL_drop {kd wd : Nat → Int32} {P Q : List (Nat × Int32)} {q : Nat × Int32} (h : fm_RL kd wd ((P ++ [q]) ++ Q)) : fm_RL (fm_rm kd P.length (P.length + 1 + Q.length - 1)) (fm_rm wd P.length (P.length + 1 + Q.length - 1)) (P ++ Q) := by
  rw [List.append_assoc] at h
  have h1 := fm_RL_rm (D := P) (T := Q) (y := q) h
  rw [show (P ++ q :: Q).length - 1 = P.length + 1 + Q.length - 1 by simp only [List.length_append, List.length_cons]; omega] at h1
  exact h1
theorem fm_its_c {q : Nat × Int32} {Q : List (Nat × Int32)} (h : ¬ q.1 = 256) : fm_its (q :: Q) = q :: fm_its Q := by
  unfold fm_its
  rw [List.filter_cons_of_pos (by simpa using h)]
theorem fm_its_d {q : Nat × Int32} {Q : List (Nat × Int32)} (h : q.1 = 256) : fm_its (q :: Q) = fm_its Q := by
  unfold fm_its
  rw [List.filter_cons_of_neg (by simpa using h)]
theorem fm_snoc {P : List (Nat × Int32)} (h : 0 < P.length) : ∃ P2 q, P = P2 ++ [q] := by
  rcases List.eq_nil_or_concat P with h1 | ⟨P2, q, h1⟩
  · rw [h1] at h; exact absurd h (by decide)
  · exact ⟨P2, q, by rw [h1]; simp⟩
def fm_okI (B : Nat → Nat) (D : List (Nat × Int32)) : Prop := ∀ q ∈ D, q.1 = 256 ∨ q.1 = 257 ∨ fm_th B q.1 = true
theorem fm_c0_okI {B : Nat → Nat} {T : List Nat} (h : fm_ok B T) : fm_okI B (fm_c0 T) := by
  intro q hq
  obtain ⟨c, hc, rfl⟩ := List.mem_map.mp hq
  exact (h c hc).elim (fun z => Or.inl z) (fun z => Or.inr (Or.inr z))
theorem fm_okI_app {B : Nat → Nat} {D E : List (Nat × Int32)} (h : fm_okI B D) (h2 : fm_okI B E) : fm_okI B (D ++ E) := fun q hq => (List.mem_append.mp hq).elim (h q) (h2 q)
theorem fm_stp_okI {B : Nat → Nat} (hV : fm_V B) {s : Nat} {D : List (Nat × Int32)} {x r : Nat} {R : List Nat} (hD : fm_okI B D) (h : fm_ok B (x :: r :: R)) : fm_okI B (fm_stp B s D (x :: r :: R)).1 := by
  have hx1 : fm_okI B [(x, 0)] := fm_c0_okI (T := [x]) (fun c hc => h c (by simp at hc; simp [hc]))
  cases hf : fm_fd B x r with
  | none => rw [fm_stp_n hf]; exact fm_okI_app hD hx1
  | some k =>
    have hkw := fm_V_fd hV (h x (by simp)) hf
    have hsk := fm_fd_skip hf
    by_cases c : 128 ≤ fm_AT B 6 k 2
    · rw [fm_stp_k hf c]
      refine fm_okI_app hD (fun q hq => ?_)
      rcases List.mem_cons.mp hq with h1 | h1
      · exact hx1 q (by simp [h1])
      · rw [List.mem_singleton.mp h1]; exact Or.inr (Or.inl rfl)
    · rw [fm_stp_l hf c]
      refine fm_okI_app hD (fm_c0_okI (fun q hq => ?_))
      exact fm_new_ok (op := fm_AT B 6 k 2) h (fm_V_lig hV hkw hsk c) q (List.mem_of_mem_take hq)
theorem fm_okI_258 {B : Nat → Nat} (hL : fm_Len B) {D : List (Nat × Int32)} (h : fm_okI B D) : ∀ q ∈ D, q.1 < 258 := by
  intro q hq
  rcases h q hq with h1 | h1 | h1
  · omega
  · omega
  · have h2 := fm_th_in h1
    have h3 := hL.2.2.1
    omega
theorem fm_run_okI {B : Nat → Nat} (hV : fm_V B) {s : Nat} : ∀ (n : Nat) (D : List (Nat × Int32)) (T : List Nat) (L : List (Nat × Int32)), fm_okI B D → fm_ok B T → fm_run B s n D T = some L → fm_okI B L ∧ L.length ≤ D.length + T.length + n := by
  intro n
  induction n with
  | zero =>
    intro D T L hD hT h
    unfold fm_run at h
    split at h
    · cases h
      exact ⟨fm_okI_app hD (fm_c0_okI hT), by rw [List.length_append, fm_c0_len]; omega⟩
    · cases h
  | succ n ih =>
    intro D T L hD hT h
    unfold fm_run at h
    split at h
    · cases h
      exact ⟨fm_okI_app hD (fm_c0_okI hT), by rw [List.length_append, fm_c0_len]; omega⟩
    · rename_i hlen
      obtain ⟨x, r, R, rfl⟩ := fm_two (T := T) (by omega)
      obtain ⟨h1, h2, h3⟩ := fm_stp_ok hV (s := s) (D := D) hT
      obtain ⟨h4, h5⟩ := ih _ _ _ (fm_stp_okI hV hD hT) h1 h
      exact ⟨h4, by omega⟩
