/-! ROWS for the law's helpers: static methods with a table of handlers -/
def fm_SWok (y : MethodName) (b : ByteArray) (n : Nat) (r : Option FieldType) (hh : List (Nat × Nat × Nat × Nat)) (k : Nat) : Prop :=
  Cond.static y ∈ fm_T ∧ Cond.initialized y.cls ∈ fm_T ∧ Cond.codeWith y b n r hh ∈ fm_T ∧ (y.cls ≠ "java/lang/invoke/MethodHandle" ∧ y.cls ≠ "java/lang/invoke/VarHandle" ∧ (parseMethodDescriptor y.desc).map (fun d => d.parameters.length) = some k)
/-- a helper that catches: it answers k, and nothing that was there has changed -/
def fm_MC (l : Launch) (D : va_G) (y : MethodName) (w : List Cond) (rm : Room) (av : List Value) (ws : va_W) (tys : List (ClassId × FieldType)) (k : Int32) : Prop :=
  Met l y w rm (va_Pc av (fun U => va_P D classes ws U.heap ∧ va_K D classes tys U ∧ fm_TH U U.heap ∧ va_Nc fm_IO fm_IS U)) (fun _ st oc t => oc = .returned (some (.int k)) ∧ va_F (fun _ => False) st t) 1 6 (fun _ => False)
theorem fm_blindC {D : va_G} {av : List Value} {ws : va_W} {tys : List (ClassId × FieldType)} : FrameBlind (va_Pc av (fun U => va_P D classes ws U.heap ∧ va_K D classes tys U ∧ fm_TH U U.heap ∧ va_Nc fm_IO fm_IS U)) := fun a U g mk q => by
  obtain ⟨q0, qP, qK, qT, qN⟩ := q
  exact ⟨q0, qP, va_K.moved (u := U) (U := U.calling g mk a) (Vm.Alike.refl U.vm) qK, fm_TH.moved (U := U.calling g mk a) (State.WarmedH.refl U) qT, va_Nc.moved (u := U) (U := U.calling g mk a) (Vm.Alike.refl U.vm) qN⟩
theorem fm_allTW {y : MethodName} {b : ByteArray} {n : Nat} {r : Option FieldType} {hh : List (Nat × Nat × Nat × Nat)} (h : Cond.codeWith y b n r hh ∈ fm_T) : ∀ w ∈ (Cond.codeWith y b n r hh :: fm_T), w ∈ fm_T := fun w hw => by
  rcases List.mem_cons.mp hw with h1 | h1
  · rw [h1]; exact h
  · exact h1
section FMSW
variable {p : Program} {l : Launch} {e : Env} {R : Room} {s : State} {m : MethodId} {args : Array Value} {below : List Frame} {meth : Method} {c : Code} {H H0 : Heap} {locs : List Loc} {cells slots : Nat} {Q : State → Prop}
variable {D : va_G} {y : MethodName} {bytes cc : ByteArray} {maxL nL n index pc ci mc ms : Nat} {ret : Option FieldType} {hh : List (Nat × Nat × Nat × Nat)} {rm : Room} {av : List Value} {ws wc wc' : va_W} {tys tysC : List (ClassId × FieldType)} {cd : Cond} {own : String} {ls : Array Slot} {rest st0 : List Value} {A : Nat → Prop} {ov : Option Value}
theorem fm_runSW {Pc : Array Value → State → Prop} {Qc : Array Value → State → Outcome → State → Prop} {free : Addr → Prop} {As : List Value} (S : CallFix p m c cc nL s args (cd :: fm_T) own) (hM : Met l y (.codeWith y bytes maxL ret hh :: fm_T) rm Pc Qc mc ms free) (hrc : rm.cells = mc) (hrs : rm.slots = ms)
    (ok : fm_SWok y bytes maxL ret hh n) (h1 : Cond.methodLink own index y ∈ fm_T) (hR : rm.frames + 1 ≤ R.frames ∧ 8 + (maxL + 11) + rm.locals ≤ R.locals) (hp : PreS s H Pc As)
    (hn : As.length = n) (hsize : ls.size = nL) (hst : st0 = As.reverse ++ rest) (hW : (rest.map fun v => v.category).sum ≤ 8) (hf : cells + mc ≤ R.cells ∧ slots + ms ≤ R.slots) (hdg : decode cc pc = .ok (.invokestatic index, 3)) :
    va_Run p l e R s m args below meth c H locs cells slots mc ms (F0 m pc ls st0) rest (Qc As.toArray) free := by
  obtain ⟨k1, k2, k3, k4⟩ := ok
  have hb : ∀ w ∈ fm_T, w ∈ cd :: fm_T := fun w h => List.mem_cons_of_mem _ h
  refine vx_runSW (hh := hh) (bytes := bytes) (maxL := maxL) (ret := ret) S hM (vx_cwSW n S.2.2.2.2 (ws := .codeWith y bytes maxL ret hh :: fm_T) (ws' := fm_T) (fm_good hb (fun w hw => ?_)) rfl hrc hrs k4 hR) hp rfl hn hsize hst (lv_room hW) hdg hf
  rcases List.mem_append.mp hw with h | h
  · simp only [List.mem_cons, List.not_mem_nil, or_false] at h
    rcases h with h | h | h
    · rw [h]; exact h1
    · rw [h]; exact k1
    · rw [h]; exact k2
  · exact fm_allTW k3 w h
theorem fm_subP {isC : List Nat} (hP : va_P D classes ws H) (hC : isC.map (fun i => ws[i]?) = wc.map some) : va_P D classes wc H := fun j q hq => by
  have h1 : (isC.map (fun i => ws[i]?))[j]? = some (some q) := by rw [hC, List.getElem?_map, hq]; rfl
  rw [List.getElem?_map] at h1
  cases hi : isC[j]? with
  | none => rw [hi] at h1; cases h1
  | some i => rw [hi] at h1; exact hP i q (Option.some.inj h1)
/-- a helper that writes and makes nothing, its end told by a state of the caller's words -/
theorem fm_xsw {St : Type} {φ : St → Prop} {ov : St → Option Value} {wcf : St → va_W} {As : List Value} (S : CallFix p m c cc nL s args (cd :: fm_T) own) (hM : fm_MX l D y (.codeWith y bytes maxL ret hh :: fm_T) rm As wc tysC φ ov wcf) (hrc : rm.cells = 0) (hrs : rm.slots = 0)
    (ok : fm_SWok y bytes maxL ret hh n) (h1 : Cond.methodLink own index y ∈ fm_T) (hR : rm.frames + 1 ≤ R.frames ∧ 8 + (maxL + 11) + rm.locals ≤ R.locals) (hP : va_P D classes ws H) (hD : va_D A ws) (hS : va_S A H0 H locs) (hK : va_K D classes tysC s) (isC : List Nat) (hnd : va_nd isC = true) (hC : isC.map (fun i => ws[i]?) = wc.map some)
    (hn : As.length = n) (hsize : ls.size = nL) (hst : st0 = As.reverse ++ rest) (hW : (rest.map fun v => v.category).sum ≤ 8) (hf : cells ≤ R.cells ∧ slots ≤ R.slots) (hdg : decode cc pc = .ok (.invokestatic index, 3))
    (wsf : St → va_W) (isR : List Nat) (hC' : ∀ u, isC.map (fun i => (wsf u)[i]?) = (wcf u).map some) (hRr : ∀ u, isR.map (fun i => (wsf u)[i]?) = isR.map (fun i => ws[i]?)) (hcov : ∀ u i, i < (wsf u).length → i ∈ isC ∨ i ∈ isR) (hdis : ∀ i ∈ isR, i ∉ isC) (hadr : ∀ u, (wsf u).map Prod.fst = ws.map Prod.fst)
    (k : ∀ (u : St), φ u → ∀ (H1 : Heap) (locs1 : List Loc), va_P D classes (wsf u) H1 → va_D A (wsf u) → va_S A H0 H1 locs1 → W p l e R s m args below meth c H1 locs1 cells slots Q (F0 m (pc + 3) ls ((ov u).toList ++ rest))) : W p l e R s m args below meth c H locs cells slots Q (F0 m pc ls st0) := by
  have hrun := fm_runSW (p := p) (l := l) (e := e) (R := R) (s := s) (m := m) (args := args) (below := below) (meth := meth) (c := c) (H := H) (locs := locs) (cells := cells) (slots := slots) (pc := pc) (ls := ls) (st0 := st0) (rest := rest) S hM hrc hrs ok h1 hR ⟨fm_blindW, fun U hU hWa => ⟨rfl, by rw [hU]; exact fm_subP hP hC, va_K.moved hWa.alike hK, fm_subD hD isC hnd hC⟩⟩ hn hsize hst hW hf hdg
  intro T hT X
  obtain ⟨v, st₀, t, T', L, h0, X', hL, e1, -, ⟨u, hu, hv, hP1, hz, hk⟩, st⟩ := hrun T hT X
  cases hv
  rw [h0] at hz hk
  obtain ⟨hP2, hD2⟩ := fm_after hP hD isC isR hC (hC' u) (hRr u) (hcov u) hdis (hadr u) hP1 hk
  obtain ⟨t2, a1, b1⟩ := k u hu T'.heap (locs ++ L) (by rw [e1]; exact hP2) hD2 ⟨Nat.le_trans hS.1 (by rw [e1]; exact hz), fun q h1 h2 => by rw [e1, hk q (Nat.lt_of_lt_of_le h1 hS.1) (fun z => h2 (fm_subA hD isC hC q z))]; exact hS.2.1 q h1 h2, fun q hq => by
      rcases List.mem_append.mp hq with h | h
      · exact hS.2.2 q h
      · exact fm_subA hD isC hC _ (hL q h)⟩ T' rfl X'
  exact ⟨t2, st t2 a1, b1⟩
theorem fm_wsw {As : List Value} (S : CallFix p m c cc nL s args (cd :: fm_T) own) (hM : fm_MW l D y (.codeWith y bytes maxL ret hh :: fm_T) rm As wc wc' tysC ov) (hrc : rm.cells = 0) (hrs : rm.slots = 0)
    (ok : fm_SWok y bytes maxL ret hh n) (h1 : Cond.methodLink own index y ∈ fm_T) (hR : rm.frames + 1 ≤ R.frames ∧ 8 + (maxL + 11) + rm.locals ≤ R.locals) (hP : va_P D classes ws H) (hD : va_D A ws) (hS : va_S A H0 H locs) (hK : va_K D classes tysC s) (isC : List Nat) (hnd : va_nd isC = true) (hC : isC.map (fun i => ws[i]?) = wc.map some)
    (hn : As.length = n) (hsize : ls.size = nL) (hst : st0 = As.reverse ++ rest) (hW : (rest.map fun v => v.category).sum ≤ 8) (hf : cells ≤ R.cells ∧ slots ≤ R.slots) (hdg : decode cc pc = .ok (.invokestatic index, 3))
    (ws' : va_W) (isR : List Nat) (hC' : isC.map (fun i => ws'[i]?) = wc'.map some) (hRr : isR.map (fun i => ws'[i]?) = isR.map (fun i => ws[i]?)) (hcov : ∀ i, i < ws'.length → i ∈ isC ∨ i ∈ isR) (hdis : ∀ i ∈ isR, i ∉ isC) (hadr : ws'.map Prod.fst = ws.map Prod.fst)
    (k : ∀ (H1 : Heap) (locs1 : List Loc), va_P D classes ws' H1 → va_D A ws' → va_S A H0 H1 locs1 → W p l e R s m args below meth c H1 locs1 cells slots Q (F0 m (pc + 3) ls (ov.toList ++ rest))) : W p l e R s m args below meth c H locs cells slots Q (F0 m pc ls st0) := by
  have hM' : fm_MX (S := Unit) l D y (.codeWith y bytes maxL ret hh :: fm_T) rm As wc tysC (fun _ => True) (fun _ => ov) (fun _ => wc') := fun p e ha hc hk s m args below hf happ hP hT => by
    obtain ⟨k, o, h1, h2, h3, ⟨h4, h5⟩⟩ := hM p e ha hc hk s m args below hf happ hP hT
    exact ⟨k, o, h1, h2, h3, ⟨⟨(), trivial, h4⟩, h5⟩⟩
  exact fm_xsw S hM' hrc hrs ok h1 hR hP hD hS hK isC hnd hC hn hsize hst hW hf hdg (fun _ => ws') isR (fun _ => hC') (fun _ => hRr) (fun _ => hcov) hdis (fun _ => hadr) (fun _ _ => k)
/-- a helper that catches -/
theorem fm_csw {v : Int32} {As : List Value} (S : CallFix p m c cc nL s args (cd :: fm_T) own) (hM : fm_MC l D y (.codeWith y bytes maxL ret hh :: fm_T) rm As wc tysC v) (hrc : rm.cells = 1) (hrs : rm.slots = 6)
    (ok : fm_SWok y bytes maxL ret hh n) (h1 : Cond.methodLink own index y ∈ fm_T) (hR : rm.frames + 1 ≤ R.frames ∧ 8 + (maxL + 11) + rm.locals ≤ R.locals) (hP : va_P D classes ws H) (hS : va_S A H0 H locs) (hK : va_K D classes tysC s) (hTh : fm_TH s H) (hNc : va_Nc fm_IO fm_IS s) (isC : List Nat) (hC : isC.map (fun i => ws[i]?) = wc.map some)
    (hn : As.length = n) (hsize : ls.size = nL) (hst : st0 = As.reverse ++ rest) (hW : (rest.map fun v => v.category).sum ≤ 8) (hf : cells + 1 ≤ R.cells ∧ slots + 6 ≤ R.slots) (hdg : decode cc pc = .ok (.invokestatic index, 3))
    (k : ∀ (H1 : Heap), H.size ≤ H1.size → (∀ q : Nat, q < H.size → H1[q]? = H[q]?) → va_P D classes ws H1 → va_S A H0 H1 locs → W p l e R s m args below meth c H1 locs (cells + 1) (slots + 6) Q (F0 m (pc + 3) ls (.int v :: rest))) : W p l e R s m args below meth c H locs cells slots Q (F0 m pc ls st0) := by
  have hrun := fm_runSW (p := p) (l := l) (e := e) (R := R) (s := s) (m := m) (args := args) (below := below) (meth := meth) (c := c) (H := H) (locs := locs) (cells := cells) (slots := slots) (pc := pc) (ls := ls) (st0 := st0) (rest := rest) S hM hrc hrs ok h1 hR ⟨fm_blindC, fun U hU hWa => ⟨rfl, by rw [hU]; exact fm_subP hP hC, va_K.moved hWa.alike hK, by rw [hU]; exact fm_TH.moved hWa hTh, va_Nc.moved hWa.alike hNc⟩⟩ hn hsize hst hW hf hdg
  intro T hT X
  obtain ⟨w, st₀, t, T', L, h0, X', hL, e1, -, ⟨hv, hz, hk⟩, st⟩ := hrun T hT X
  cases hv
  rw [h0] at hz hk
  have hLn : L = [] := by
    cases L with
    | nil => rfl
    | cons z r => exact (hL z List.mem_cons_self).elim
  subst hLn
  rw [List.append_nil] at X'
  have hk' : ∀ q : Nat, q < H.size → T'.heap[q]? = H[q]? := fun q hq => by rw [e1]; exact hk q hq (fun z => z)
  obtain ⟨t2, a1, b1⟩ := k T'.heap (by rw [e1]; exact hz) hk' (hP.kept (fun j x hx => hk' x.1 (hP j x hx).lt)) ⟨Nat.le_trans hS.1 (by rw [e1]; exact hz), fun q h1 h2 => (hk' q (Nat.lt_of_lt_of_le h1 hS.1)).trans (hS.2.1 q h1 h2), hS.2.2⟩ T' rfl X'
  exact ⟨t2, st t2 a1, b1⟩
end FMSW
