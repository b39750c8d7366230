/-! ROWS for methods that write, their end told by a state of the caller's words -/
def fm_MX {S : Type} (l : Launch) (D : va_G) (y : MethodName) (w : List Cond) (rm : Room) (av : List Value) (ws : va_W) (tys : List (ClassId × FieldType)) (φ : S → Prop) (ov : S → Option Value) (wsf : S → va_W) : Prop :=
  Met l y w rm (va_Pc av (fun U => va_P D classes ws U.heap ∧ va_K D classes tys U ∧ va_D (fun _ => True) ws)) (fun _ st oc t => ∃ u : S, φ u ∧ oc = .returned (ov u) ∧ va_P D classes (wsf u) t.heap ∧ va_F (fm_A ws) st t) 0 0 (fm_A ws)
section FMX
variable {p : Program} {l : Launch} {e : Env} {R : Room} {s : State} {m : MethodId} {args : Array Value} {below : List Frame} {meth : Method} {c : Code} {H H0 : Heap} {locs : List Loc} {cells slots : Nat} {Q : State → Prop}
variable {D : va_G} {y : MethodName} {bytes cc : ByteArray} {maxL nL n index pc ci : Nat} {ret : Option FieldType} {rm : Room} {av : List Value} {ws wc : va_W} {tys tysC : List (ClassId × FieldType)} {cd : Cond} {own : String} {ls : Array Slot} {rest st0 : List Value} {A : Nat → Prop}
theorem fm_xv {St : Type} {φ : St → Prop} {ov : St → Option Value} {wcf : St → va_W} {b : Nat} {As : List Value} {fs : List Value} {T : u_T} {N : Nat} (S : CallFix p m c cc nL s args (cd :: fm_T) own) (hM : fm_MX l D y (.code y bytes maxL ret :: fm_T) rm (.ref b :: As) wc tysC φ ov wcf) (hrc : rm.cells = 0) (hrs : rm.slots = 0)
    (ok : fm_Vok y bytes maxL ret n) (h1 : Cond.methodLink own index y ∈ fm_T) (hR : rm.frames + 1 ≤ R.frames ∧ 8 + (maxL + 11) + rm.locals ≤ R.locals) (hP : va_P D classes ws H) (hD : va_D A ws) (hS : va_S A H0 H locs) (hK : va_K D classes tysC s) (isC : List Nat) (hnd : va_nd isC = true) (hC : isC.map (fun i => ws[i]?) = wc.map some) (q0 : Nat) (he : wc[q0]? = some (b, .inr (ci, fs))) (hc : classes[ci]? = some (y.cls, T, N))
    (hn : As.length = n) (hsize : ls.size = nL) (hst : st0 = As.reverse ++ .ref b :: rest) (hW : (rest.map fun v => v.category).sum ≤ 8) (hf : cells ≤ R.cells ∧ slots ≤ R.slots) (hdg : decode cc pc = .ok (.invokevirtual index, 3))
    (wsf : St → va_W) (isR : List Nat) (hC' : ∀ u, isC.map (fun i => (wsf u)[i]?) = (wcf u).map some) (hRr : ∀ u, isR.map (fun i => (wsf u)[i]?) = isR.map (fun i => ws[i]?)) (hcov : ∀ u i, i < (wsf u).length → i ∈ isC ∨ i ∈ isR) (hdis : ∀ i ∈ isR, i ∉ isC) (hadr : ∀ u, (wsf u).map Prod.fst = ws.map Prod.fst)
    (k : ∀ (u : St), φ u → ∀ (H1 : Heap) (locs1 : List Loc), va_P D classes (wsf u) H1 → va_D A (wsf u) → va_S A H0 H1 locs1 → W p l e R s m args below meth c H1 locs1 cells slots Q (F0 m (pc + 3) ls ((ov u).toList ++ rest))) : W p l e R s m args below meth c H locs cells slots Q (F0 m pc ls st0) := by
  obtain ⟨k0, k1, k2, k3, k4⟩ := ok
  have hb : ∀ w ∈ fm_T, w ∈ cd :: fm_T := fun w h => List.mem_cons_of_mem _ h
  have hPc : va_P D classes wc H := fun j q hq => by
    have h1 : (isC.map (fun i => ws[i]?))[j]? = some (some q) := by rw [hC, List.getElem?_map, hq]; rfl
    rw [List.getElem?_map] at h1
    cases hi : isC[j]? with
    | none => rw [hi] at h1; cases h1
    | some i => rw [hi] at h1; exact hP i q (Option.some.inj h1)
  have hrun := W.runV (p := p) (l := l) (e := e) (R := R) (s := s) (m := m) (args := args) (below := below) (meth := meth) (c := c) (H := H) (locs := locs) (cells := cells) (slots := slots) (C := y.cls) (g := F0 m pc ls st0) (rest := rest) S hM (cwV n S.2.2.2.2 (ws := .code y bytes maxL ret :: fm_T) (ws' := fm_T) (fm_good hb (fun w hw => by
    rcases List.mem_append.mp hw with h | h
    · simp only [List.mem_cons, List.not_mem_nil, or_false] at h
      rcases h with h | h | h | h
      · rw [h]; exact h1
      · rw [h]; exact k0
      · rw [h]; exact k1
      · rw [h]; exact k2
    · exact fm_allT k3 w h)) rfl hrc hrs ⟨rfl, k4⟩ hR) ⟨fm_blindW, va_recv hK hPc hc he, fun U hU hWa => ⟨rfl, by rw [hU]; exact hPc, va_K.moved hWa.alike hK, fm_subD hD isC hnd hC⟩⟩ rfl hn hsize hst (lv_room hW) hdg hf
  intro T hT X
  obtain ⟨v, st₀, t, T', L, h0, X', hL, e1, ⟨u, hu, hv, hP1, hz, hk⟩, st⟩ := hrun T hT X
  cases hv
  rw [h0] at hz hk
  obtain ⟨hP2, hD2⟩ := fm_after hP hD isC isR hC (hC' u) (hRr u) (hcov u) hdis (hadr u) hP1 hk
  obtain ⟨t2, a1, b1⟩ := k u hu T'.heap (locs ++ L) (by rw [e1]; exact hP2) hD2 ⟨Nat.le_trans hS.1 (by rw [e1]; exact hz), fun q h1 h2 => by rw [e1, hk q (Nat.lt_of_lt_of_le h1 hS.1) (fun z => h2 (fm_subA hD isC hC q z))]; exact hS.2.1 q h1 h2, fun q hq => by
      rcases List.mem_append.mp hq with h | h
      · exact hS.2.2 q h
      · exact fm_subA hD isC hC _ (hL q h)⟩ T' rfl X'
  exact ⟨t2, st t2 a1, b1⟩
end FMX
/-! THE MODEL, tenth part: how a row is set -/
def fm_c0 (T : List Nat) : List (Nat × Int32) := T.map (fun c => (c, 0))
def fm_new (op z x r : Nat) (R : List Nat) : List Nat := (if op / 2 % 2 = 1 then [x] else []) ++ (z :: ((if op % 2 = 1 then [r] else []) ++ R))
def fm_stp (B : Nat → Nat) (s : Nat) (D : List (Nat × Int32)) : List Nat → List (Nat × Int32) × List Nat
  | x :: r :: R => match fm_fd B x r with
    | none => (D ++ [(x, 0)], r :: R)
    | some k => if 128 ≤ fm_AT B 6 k 2 then (D ++ [(x, 0), (257, fm_sc B s 7 (256 * (fm_AT B 6 k 2 - 128) + fm_AT B 6 k 3))], r :: R)
      else (D ++ fm_c0 ((fm_new (fm_AT B 6 k 2) (fm_AT B 6 k 3) x r R).take (min (fm_AT B 6 k 2 / 4) ((fm_new (fm_AT B 6 k 2) (fm_AT B 6 k 3) x r R).length - 1))), (fm_new (fm_AT B 6 k 2) (fm_AT B 6 k 3) x r R).drop (min (fm_AT B 6 k 2 / 4) ((fm_new (fm_AT B 6 k 2) (fm_AT B 6 k 3) x r R).length - 1)))
  | T => (D, T)
def fm_run (B : Nat → Nat) (s : Nat) : Nat → List (Nat × Int32) → List Nat → Option (List (Nat × Int32))
  | 0, D, T => if T.length ≤ 1 then some (D ++ fm_c0 T) else none
  | n + 1, D, T => if T.length ≤ 1 then some (D ++ fm_c0 T) else fm_run B s n (fm_stp B s D T).1 (fm_stp B s D T).2
def fm_its (L : List (Nat × Int32)) : List (Nat × Int32) := L.filter (fun q => decide (q.1 ≠ 256))
/-- what may stand in a row: characters that are there, edges -/
def fm_ok (B : Nat → Nat) (T : List Nat) : Prop := ∀ c ∈ T, c = 256 ∨ fm_th B c = true
theorem fm_new_len (op z x r : Nat) (R : List Nat) : 1 ≤ (fm_new op z x r R).length ∧ (fm_new op z x r R).length ≤ R.length + 3 := by
  unfold fm_new
  split <;> split <;> simp <;> omega
theorem fm_new_ok {B : Nat → Nat} {op z x r : Nat} {R : List Nat} (h : fm_ok B (x :: r :: R)) (hz : fm_th B z = true) : fm_ok B (fm_new op z x r R) := by
  intro c hc
  unfold fm_new at hc
  rcases List.mem_append.mp hc with h1 | h1
  · split at h1
    · exact h c (by simp at h1; simp [h1])
    · cases h1
  · rcases List.mem_cons.mp h1 with h2 | h2
    · rw [h2]; exact Or.inr hz
    · rcases List.mem_append.mp h2 with h3 | h3
      · split at h3
        · exact h c (by simp at h3; simp [h3])
        · cases h3
      · exact h c (by simp [h3])
theorem fm_V_lig {B : Nat → Nat} (h : fm_V B) {k : Nat} (hk : k < fm_WD B 6) (h1 : ¬ 128 < fm_AT B 6 k 0) (h2 : ¬ 128 ≤ fm_AT B 6 k 2) : fm_th B (fm_AT B 6 k 3) = true := by
  have h3 := fm_V_word h hk
  rw [fm_word1, if_neg h1, Bool.and_eq_true, Bool.and_eq_true] at h3
  exact (fm_w2_1 h2 rfl).symm.trans h3.1.2
theorem fm_V_kern {B : Nat → Nat} (h : fm_V B) {k : Nat} (hk : k < fm_WD B 6) (h1 : ¬ 128 < fm_AT B 6 k 0) (h2 : 128 ≤ fm_AT B 6 k 2) : 256 * (fm_AT B 6 k 2 - 128) + fm_AT B 6 k 3 < fm_WD B 7 := by
  have h3 := fm_V_word h hk
  rw [fm_word1, if_neg h1, Bool.and_eq_true, Bool.and_eq_true] at h3
  have h4 := h3.1.2
  unfold fm_w2 at h4
  rw [if_neg (Nat.not_lt.mpr h2)] at h4
  exact of_decide_eq_true h4
theorem fm_seek_skip {B : Nat → Nat} (nx : Nat) : ∀ (n q k : Nat), fm_seek B nx n q = some k → ¬ 128 < fm_AT B 6 k 0 := by
  intro n
  induction n with
  | zero => intro q k h2; cases h2
  | succ n ih =>
    intro q k h2
    unfold fm_seek at h2
    by_cases c1 : 128 < fm_AT B 6 q 0
    · rw [if_pos c1] at h2; cases h2
    · rw [if_neg c1] at h2
      by_cases c2 : fm_AT B 6 q 1 = nx
      · rw [if_pos c2] at h2; cases h2; exact c1
      · rw [if_neg c2] at h2
        by_cases c3 : fm_AT B 6 q 0 = 128
        · rw [if_pos c3] at h2; cases h2
        · rw [if_neg c3] at h2
          exact ih _ k h2
theorem fm_fd_skip {B : Nat → Nat} {x r k : Nat} (hk : fm_fd B x r = some k) : ¬ 128 < fm_AT B 6 k 0 := by
  unfold fm_fd at hk
  cases h1 : fm_so B x with
  | none => rw [h1] at hk; cases hk
  | some q =>
    cases h2 : fm_no B r with
    | none => rw [h1, h2] at hk; cases hk
    | some nx =>
      rw [h1, h2] at hk
      exact fm_seek_skip nx _ _ _ hk
theorem fm_stp_n {B : Nat → Nat} {s : Nat} {D : List (Nat × Int32)} {x r : Nat} {R : List Nat} (hf : fm_fd B x r = none) : fm_stp B s D (x :: r :: R) = (D ++ [(x, 0)], r :: R) := by simp only [fm_stp, hf]
theorem fm_stp_k {B : Nat → Nat} {s : Nat} {D : List (Nat × Int32)} {x r k : Nat} {R : List Nat} (hf : fm_fd B x r = some k) (c : 128 ≤ fm_AT B 6 k 2) : fm_stp B s D (x :: r :: R) = (D ++ [(x, 0), (257, fm_sc B s 7 (256 * (fm_AT B 6 k 2 - 128) + fm_AT B 6 k 3))], r :: R) := by simp only [fm_stp, hf, if_pos c]
theorem fm_stp_l {B : Nat → Nat} {s : Nat} {D : List (Nat × Int32)} {x r k : Nat} {R : List Nat} (hf : fm_fd B x r = some k) (c : ¬ 128 ≤ fm_AT B 6 k 2) : fm_stp B s D (x :: r :: R) = (D ++ fm_c0 ((fm_new (fm_AT B 6 k 2) (fm_AT B 6 k 3) x r R).take (min (fm_AT B 6 k 2 / 4) ((fm_new (fm_AT B 6 k 2) (fm_AT B 6 k 3) x r R).length - 1))), (fm_new (fm_AT B 6 k 2) (fm_AT B 6 k 3) x r R).drop (min (fm_AT B 6 k 2 / 4) ((fm_new (fm_AT B 6 k 2) (fm_AT B 6 k 3) x r R).length - 1))) := by simp only [fm_stp, hf, if_neg c]
/-- a step keeps what may stand there, and brings one place at most -/
theorem fm_stp_ok {B : Nat → Nat} (hV : fm_V B) {s : Nat} {D : List (Nat × Int32)} {x r : Nat} {R : List Nat} (h : fm_ok B (x :: r :: R)) : fm_ok B (fm_stp B s D (x :: r :: R)).2 ∧ 1 ≤ (fm_stp B s D (x :: r :: R)).2.length ∧ (fm_stp B s D (x :: r :: R)).1.length + (fm_stp B s D (x :: r :: R)).2.length ≤ D.length + (x :: r :: R).length + 1 := by
  have hrr : fm_ok B (r :: R) := fun c hc => h c (List.mem_cons_of_mem _ hc)
  cases hf : fm_fd B x r with
  | none => rw [fm_stp_n hf]; exact ⟨hrr, by simp, by simp; omega⟩
  | some k =>
    have hkw := fm_V_fd hV (h x (by simp)) hf
    have hsk := fm_fd_skip hf
    by_cases c : 128 ≤ fm_AT B 6 k 2
    · rw [fm_stp_k hf c]
      exact ⟨hrr, by simp, by simp; omega⟩
    · rw [fm_stp_l hf c]
      have hn := fm_new_len (fm_AT B 6 k 2) (fm_AT B 6 k 3) x r R
      have ho := fm_new_ok (op := fm_AT B 6 k 2) h (fm_V_lig hV hkw hsk c)
      generalize fm_new (fm_AT B 6 k 2) (fm_AT B 6 k 3) x r R = N at hn ho
      refine ⟨fun q hq => ho q (List.mem_of_mem_drop hq), ?_, ?_⟩
      · rw [List.length_drop]; omega
      · simp only [List.length_append, fm_c0, List.length_map, List.length_take, List.length_drop, List.length_cons] at *
        omega
theorem fm_stp_all {B : Nat → Nat} {s : Nat} {D : List (Nat × Int32)} {x r k : Nat} {R : List Nat} (hf : fm_fd B x r = some k) (c : ¬ 128 ≤ fm_AT B 6 k 2) : (fm_stp B s D (x :: r :: R)).1 ++ fm_c0 (fm_stp B s D (x :: r :: R)).2 = D ++ fm_c0 (fm_new (fm_AT B 6 k 2) (fm_AT B 6 k 3) x r R) := by
  rw [fm_stp_l hf c]
  simp only [fm_c0, List.append_assoc, ← List.map_append, List.take_append_drop]
