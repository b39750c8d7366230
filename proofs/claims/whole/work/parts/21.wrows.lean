/-! ROWS for methods that write and make nothing -/
/-- the addresses of a world -/
def fm_A (ws : va_W) : Nat → Prop := fun q => ∃ (k : Nat) (e : va_E), ws[k]? = some (q, e)
/-- a method that writes in the cells ws and makes none: it answers ov, and the cells are ws' then -/
def fm_MW (l : Launch) (D : va_G) (y : MethodName) (w : List Cond) (rm : Room) (av : List Value) (ws ws' : va_W) (tys : List (ClassId × FieldType)) (ov : Option Value) : Prop :=
  Met l y w rm (va_Pc av (fun U => va_P D classes ws U.heap ∧ va_K D classes tys U ∧ va_D (fun _ => True) ws)) (fun _ st oc t => oc = .returned ov ∧ va_P D classes ws' t.heap ∧ va_F (fm_A ws) st t) 0 0 (fm_A ws)
theorem fm_selfD {ws : va_W} {A : Nat → Prop} (h : va_D A ws) : va_D (fm_A ws) ws := ⟨h.1, fun k q hk => ⟨k, q.2, hk⟩⟩
theorem fm_blindW {D : va_G} {av : List Value} {ws : va_W} {tys : List (ClassId × FieldType)} : FrameBlind (va_Pc av (fun U => va_P D classes ws U.heap ∧ va_K D classes tys U ∧ va_D (fun _ => True) ws)) := fun a U g mk q => by
  obtain ⟨q0, qP, qK, qD⟩ := q
  exact ⟨q0, qP, va_K.moved (u := U) (U := U.calling g mk a) (Vm.Alike.refl U.vm) qK, qD⟩
theorem fm_Dcongr {A : Nat → Prop} {ws ws' : va_W} (h : va_D A ws) (e : ws'.map Prod.fst = ws.map Prod.fst) : va_D A ws' := by
  have key : ∀ (k : Nat) (q : Nat × va_E), ws'[k]? = some q → ∃ q2, ws[k]? = some q2 ∧ q2.1 = q.1 := by
    intro k q hq
    have h1 : (ws'.map Prod.fst)[k]? = some q.1 := by rw [List.getElem?_map, hq]; rfl
    rw [e, List.getElem?_map] at h1
    cases h2 : ws[k]? with
    | none => rw [h2] at h1; cases h1
    | some q2 => rw [h2] at h1; exact ⟨q2, rfl, Option.some.inj h1⟩
  refine ⟨fun i j p q hp hq hpq => ?_, fun k q hq => ?_⟩
  · obtain ⟨p2, a1, a2⟩ := key i p hp
    obtain ⟨q2, b1, b2⟩ := key j q hq
    exact h.1 i j p2 q2 a1 b1 (by rw [a2, b2]; exact hpq)
  · obtain ⟨q2, b1, b2⟩ := key k q hq
    rw [← b2]
    exact h.2 k q2 b1
theorem fm_subA {A : Nat → Prop} {ws wc : va_W} (hD : va_D A ws) (isC : List Nat) (hC : isC.map (fun i => ws[i]?) = wc.map some) : ∀ q, fm_A wc q → A q := by
  intro q ⟨k, e, h⟩
  have h1 : (isC.map (fun i => ws[i]?))[k]? = some (some (q, e)) := by rw [hC, List.getElem?_map, h]; rfl
  rw [List.getElem?_map] at h1
  cases hi : isC[k]? with
  | none => rw [hi] at h1; cases h1
  | some i => rw [hi] at h1; exact hD.2 i (q, e) (Option.some.inj h1)
theorem fm_subD {ws wc : va_W} {A : Nat → Prop} (hD : va_D A ws) (isC : List Nat) (hn : va_nd isC = true) (hC : isC.map (fun i => ws[i]?) = wc.map some) : va_D (fun _ => True) wc := (hD.sub isC hn hC).weaken (fun _ _ _ _ => trivial)
/-- behind a call that wrote: the callee's cells new, the others as they were, all at their places -/
theorem fm_after {A0 : Nat → Prop} {D : va_G} {cl : List vw_C} {ws ws' wc wc' : va_W} {H H1 : Heap} (hP : va_P D cl ws H) (hD : va_D A0 ws) (isC isR : List Nat) (hC : isC.map (fun i => ws[i]?) = wc.map some) (hC' : isC.map (fun i => ws'[i]?) = wc'.map some)
    (hR : isR.map (fun i => ws'[i]?) = isR.map (fun i => ws[i]?)) (hcov : ∀ i, i < ws'.length → i ∈ isC ∨ i ∈ isR) (hdis : ∀ i ∈ isR, i ∉ isC) (hadr : ws'.map Prod.fst = ws.map Prod.fst) (hP1 : va_P D cl wc' H1) (hk : ∀ q : Nat, q < H.size → ¬ fm_A wc q → H1[q]? = H[q]?) : va_P D cl ws' H1 ∧ va_D A0 ws' := by
  refine ⟨fun k q hq => ?_, fm_Dcongr hD hadr⟩
  have hlt : k < ws'.length := (List.getElem?_eq_some_iff.mp hq).1
  rcases hcov k hlt with h | h
  · obtain ⟨j, hj⟩ := List.getElem?_of_mem h
    have h1 : (isC.map (fun i => ws'[i]?))[j]? = some (some q) := by rw [List.getElem?_map, hj]; exact congrArg some hq
    rw [hC', List.getElem?_map] at h1
    cases h2 : wc'[j]? with
    | none => rw [h2] at h1; cases h1
    | some q2 => rw [h2] at h1; cases h1; exact hP1 j _ h2
  · obtain ⟨j, hj⟩ := List.getElem?_of_mem h
    have h1 : (isR.map (fun i => ws'[i]?))[j]? = some (some q) := by rw [List.getElem?_map, hj]; exact congrArg some hq
    rw [hR, List.getElem?_map, hj] at h1
    have h2 : ws[k]? = some q := Option.some.inj h1
    have hl := (hP k q h2).lt
    refine (hP k q h2).kept (hk q.1 hl (fun ⟨k2, e, h3⟩ => ?_))
    have h4 : (isC.map (fun i => ws[i]?))[k2]? = some (some (q.1, e)) := by rw [hC, List.getElem?_map, h3]; rfl
    rw [List.getElem?_map] at h4
    cases h5 : isC[k2]? with
    | none => rw [h5] at h4; cases h4
    | some i =>
      rw [h5] at h4
      have h6 := hD.1 k i q (q.1, e) h2 (Option.some.inj h4) rfl
      exact hdis k h (h6 ▸ List.mem_of_getElem? h5)
section FMW
variable {p : Program} {l : Launch} {e : Env} {R : Room} {s : State} {m : MethodId} {args : Array Value} {below : List Frame} {meth : Method} {c : Code} {H H0 : Heap} {locs : List Loc} {cells slots : Nat} {Q : State → Prop}
variable {D : va_G} {y : MethodName} {bytes cc : ByteArray} {maxL nL n index pc ci : Nat} {ret : Option FieldType} {rm : Room} {av : List Value} {ws wc wc' : va_W} {tys tysC : List (ClassId × FieldType)} {cd : Cond} {own : String} {ls : Array Slot} {rest st0 : List Value} {A : Nat → Prop} {ov : Option Value}
/-- a call of an object's method that writes -/
theorem fm_wv {b : Nat} {As : List Value} {fs : List Value} {T : u_T} {N : Nat} (S : CallFix p m c cc nL s args (cd :: fm_T) own) (hM : fm_MW l D y (.code y bytes maxL ret :: fm_T) rm (.ref b :: As) wc wc' tysC ov) (hrc : rm.cells = 0) (hrs : rm.slots = 0)
    (ok : fm_Vok y bytes maxL ret n) (h1 : Cond.methodLink own index y ∈ fm_T) (hR : rm.frames + 1 ≤ R.frames ∧ 8 + (maxL + 11) + rm.locals ≤ R.locals) (hP : va_P D classes ws H) (hD : va_D A ws) (hS : va_S A H0 H locs) (hK : va_K D classes tysC s) (isC : List Nat) (hnd : va_nd isC = true) (hC : isC.map (fun i => ws[i]?) = wc.map some) (q0 : Nat) (he : wc[q0]? = some (b, .inr (ci, fs))) (hc : classes[ci]? = some (y.cls, T, N))
    (hn : As.length = n) (hsize : ls.size = nL) (hst : st0 = As.reverse ++ .ref b :: rest) (hW : (rest.map fun v => v.category).sum ≤ 8) (hf : cells ≤ R.cells ∧ slots ≤ R.slots) (hdg : decode cc pc = .ok (.invokevirtual index, 3))
    (ws' : va_W) (isR : List Nat) (hC' : isC.map (fun i => ws'[i]?) = wc'.map some) (hRr : isR.map (fun i => ws'[i]?) = isR.map (fun i => ws[i]?)) (hcov : ∀ i, i < ws'.length → i ∈ isC ∨ i ∈ isR) (hdis : ∀ i ∈ isR, i ∉ isC) (hadr : ws'.map Prod.fst = ws.map Prod.fst)
    (k : ∀ (H1 : Heap) (locs1 : List Loc), va_P D classes ws' H1 → va_D A ws' → va_S A H0 H1 locs1 → W p l e R s m args below meth c H1 locs1 cells slots Q (F0 m (pc + 3) ls (ov.toList ++ rest))) : W p l e R s m args below meth c H locs cells slots Q (F0 m pc ls st0) := by
  obtain ⟨k0, k1, k2, k3, k4⟩ := ok
  have hb : ∀ w ∈ fm_T, w ∈ cd :: fm_T := fun w h => List.mem_cons_of_mem _ h
  have hPc : va_P D classes wc H := fun j q hq => by
    have h1 : (isC.map (fun i => ws[i]?))[j]? = some (some q) := by rw [hC, List.getElem?_map, hq]; rfl
    rw [List.getElem?_map] at h1
    cases hi : isC[j]? with
    | none => rw [hi] at h1; cases h1
    | some i => rw [hi] at h1; exact hP i q (Option.some.inj h1)
  have hrun := W.runV (p := p) (l := l) (e := e) (R := R) (s := s) (m := m) (args := args) (below := below) (meth := meth) (c := c) (H := H) (locs := locs) (cells := cells) (slots := slots) (C := y.cls) (g := F0 m pc ls st0) (rest := rest) S hM (cwV n S.2.2.2.2 (ws := .code y bytes maxL ret :: fm_T) (ws' := fm_T) (fm_good hb (fun w hw => by
    rcases List.mem_append.mp hw with h | h
    · simp only [List.mem_cons, List.not_mem_nil, or_false] at h
      rcases h with h | h | h | h
      · rw [h]; exact h1
      · rw [h]; exact k0
      · rw [h]; exact k1
      · rw [h]; exact k2
    · exact fm_allT k3 w h)) rfl hrc hrs ⟨rfl, k4⟩ hR) ⟨fm_blindW, va_recv hK hPc hc he, fun U hU hWa => ⟨rfl, by rw [hU]; exact hPc, va_K.moved hWa.alike hK, fm_subD hD isC hnd hC⟩⟩ rfl hn hsize hst (lv_room hW) hdg hf
  intro T hT X
  obtain ⟨v, st₀, t, T', L, h0, X', hL, e1, ⟨hv, hP1, hz, hk⟩, st⟩ := hrun T hT X
  cases hv
  rw [h0] at hz hk
  obtain ⟨hP2, hD2⟩ := fm_after hP hD isC isR hC hC' hRr hcov hdis hadr hP1 hk
  obtain ⟨t2, a1, b1⟩ := k T'.heap (locs ++ L) (by rw [e1]; exact hP2) hD2 ⟨Nat.le_trans hS.1 (by rw [e1]; exact hz), fun q h1 h2 => by rw [e1, hk q (Nat.lt_of_lt_of_le h1 hS.1) (fun z => h2 (fm_subA hD isC hC q z))]; exact hS.2.1 q h1 h2, fun q hq => by
      rcases List.mem_append.mp hq with h | h
      · exact hS.2.2 q h
      · exact fm_subA hD isC hC _ (hL q h)⟩ T' rfl X'
  exact ⟨t2, st t2 a1, b1⟩
/-- loops over a world that changes -/
theorem fm_wloop1 {A1 : Type} (LV : A1 → List (Nat × Value)) (WS : A1 → va_W) (I : A1 → Prop) (μ : A1 → Nat)
    (step : ∀ (a : A1), I a → (∀ (b : A1) (H : Heap) (locs : List Loc) (ls : Array Slot), I b → μ b < μ a → va_P D classes (WS b) H → va_D A (WS b) → va_S A H0 H locs → lv_has ls nL (LV b) → W p l e R s m args below meth c H locs cells slots Q (F0 m pc ls [])) →
      ∀ (H : Heap) (locs : List Loc) (ls : Array Slot), va_P D classes (WS a) H → va_D A (WS a) → va_S A H0 H locs → lv_has ls nL (LV a) → W p l e R s m args below meth c H locs cells slots Q (F0 m pc ls []))
    (a : A1) (h : I a) (hP : va_P D classes (WS a) H) (hD : va_D A (WS a)) (hS : va_S A H0 H locs) (ls : Array Slot) (hl : lv_has ls nL (LV a)) : W p l e R s m args below meth c H locs cells slots Q (F0 m pc ls []) := by
  have key : ∀ (n : Nat) (a : A1), μ a < n → I a → ∀ (H : Heap) (locs : List Loc) (ls : Array Slot), va_P D classes (WS a) H → va_D A (WS a) → va_S A H0 H locs → lv_has ls nL (LV a) → W p l e R s m args below meth c H locs cells slots Q (F0 m pc ls []) := by
    intro n
    induction n with
    | zero => intro a h; exact absurd h (Nat.not_lt_zero _)
    | succ n ih =>
      intro a ha hI H locs ls hP hD hS hl
      exact step a hI (fun b H' locs' ls' hb hm hP' hD' hS' hl' => ih b (Nat.lt_of_lt_of_le hm (Nat.lt_succ_iff.mp ha)) hb H' locs' ls' hP' hD' hS' hl') H locs ls hP hD hS hl
  exact key (μ a + 1) a (Nat.lt_succ_self _) h H locs ls hP hD hS hl
theorem fm_wloop2 {A1 A2 : Type} (LV : A1 → A2 → List (Nat × Value)) (WS : A1 → A2 → va_W) (I : A1 → A2 → Prop) (μ : A1 → A2 → Nat)
    (step : ∀ (a : A1) (a2 : A2), I a a2 → (∀ (b : A1) (b2 : A2) (H : Heap) (locs : List Loc) (ls : Array Slot), I b b2 → μ b b2 < μ a a2 → va_P D classes (WS b b2) H → va_D A (WS b b2) → va_S A H0 H locs → lv_has ls nL (LV b b2) → W p l e R s m args below meth c H locs cells slots Q (F0 m pc ls [])) →
      ∀ (H : Heap) (locs : List Loc) (ls : Array Slot), va_P D classes (WS a a2) H → va_D A (WS a a2) → va_S A H0 H locs → lv_has ls nL (LV a a2) → W p l e R s m args below meth c H locs cells slots Q (F0 m pc ls []))
    (a : A1) (a2 : A2) (h : I a a2) (hP : va_P D classes (WS a a2) H) (hD : va_D A (WS a a2)) (hS : va_S A H0 H locs) (ls : Array Slot) (hl : lv_has ls nL (LV a a2)) : W p l e R s m args below meth c H locs cells slots Q (F0 m pc ls []) :=
  fm_wloop1 (A1 := A1 × A2) (fun q => LV q.1 q.2) (fun q => WS q.1 q.2) (fun q => I q.1 q.2) (fun q => μ q.1 q.2) (fun q hq ih H locs ls => step q.1 q.2 hq (fun b b2 H' locs' ls' h1 h2 h3 h4 h5 h6 => ih (b, b2) H' locs' ls' h1 h2 h3 h4 h5 h6) H locs ls) (a, a2) h hP hD hS ls hl
theorem fm_wloop3 {A1 A2 A3 : Type} (LV : A1 → A2 → A3 → List (Nat × Value)) (WS : A1 → A2 → A3 → va_W) (I : A1 → A2 → A3 → Prop) (μ : A1 → A2 → A3 → Nat)
    (step : ∀ (a : A1) (a2 : A2) (a3 : A3), I a a2 a3 → (∀ (b : A1) (b2 : A2) (b3 : A3) (H : Heap) (locs : List Loc) (ls : Array Slot), I b b2 b3 → μ b b2 b3 < μ a a2 a3 → va_P D classes (WS b b2 b3) H → va_D A (WS b b2 b3) → va_S A H0 H locs → lv_has ls nL (LV b b2 b3) → W p l e R s m args below meth c H locs cells slots Q (F0 m pc ls [])) →
      ∀ (H : Heap) (locs : List Loc) (ls : Array Slot), va_P D classes (WS a a2 a3) H → va_D A (WS a a2 a3) → va_S A H0 H locs → lv_has ls nL (LV a a2 a3) → W p l e R s m args below meth c H locs cells slots Q (F0 m pc ls []))
    (a : A1) (a2 : A2) (a3 : A3) (h : I a a2 a3) (hP : va_P D classes (WS a a2 a3) H) (hD : va_D A (WS a a2 a3)) (hS : va_S A H0 H locs) (ls : Array Slot) (hl : lv_has ls nL (LV a a2 a3)) : W p l e R s m args below meth c H locs cells slots Q (F0 m pc ls []) :=
  fm_wloop1 (A1 := A1 × A2 × A3) (fun q => LV q.1 q.2.1 q.2.2) (fun q => WS q.1 q.2.1 q.2.2) (fun q => I q.1 q.2.1 q.2.2) (fun q => μ q.1 q.2.1 q.2.2) (fun q hq ih H locs ls => step q.1 q.2.1 q.2.2 hq (fun b b2 b3 H' locs' ls' h1 h2 h3 h4 h5 h6 => ih (b, b2, b3) H' locs' ls' h1 h2 h3 h4 h5 h6) H locs ls) (a, a2, a3) h hP hD hS ls hl
theorem fm_wjoin {q : Nat} {LV : List (Nat × Value)} {WS : va_W} {g : JFrame} (h : ∀ (H : Heap) (locs : List Loc) (ls : Array Slot), va_P D classes WS H → va_D A WS → va_S A H0 H locs → lv_has ls nL LV → W p l e R s m args below meth c H locs cells slots Q (F0 m q ls []))
    (k : (∀ (H : Heap) (locs : List Loc) (ls : Array Slot), va_P D classes WS H → va_D A WS → va_S A H0 H locs → lv_has ls nL LV → W p l e R s m args below meth c H locs cells slots Q (F0 m q ls [])) → W p l e R s m args below meth c H locs cells slots Q g) : W p l e R s m args below meth c H locs cells slots Q g := k h
end FMW
theorem fm_narz (b : Bool) : vp_nar .boolean (fm_bI b) = fm_bI b := by cases b <;> rfl
theorem fm_narz0 : vp_nar .boolean (nI 0) = nI 0 := rfl
theorem fm_narz1 : vp_nar .boolean (nI 1) = nI 1 := rfl
