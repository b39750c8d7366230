/-! ROWS for a large world: what a callee gives back is put at its places -/
def fm_put (ws : va_W) : List Nat → va_W → va_W
  | i :: is, c :: cs => fm_put (ws.set i c) is cs
  | _, _ => ws
def fm_rs (n : Nat) (is : List Nat) : List Nat := (List.range n).filter (fun i => decide (i ∉ is))
theorem fm_put_len (is : List Nat) : ∀ (ws cs : va_W), (fm_put ws is cs).length = ws.length := by
  induction is with
  | nil => intro ws cs; cases cs <;> rfl
  | cons i is ih =>
    intro ws cs
    cases cs with
    | nil => rfl
    | cons c cs => show (fm_put (ws.set i c) is cs).length = _; rw [ih, List.length_set]
theorem fm_put_no (is : List Nat) : ∀ (ws cs : va_W) (k : Nat), k ∉ is → (fm_put ws is cs)[k]? = ws[k]? := by
  induction is with
  | nil => intro ws cs k _; cases cs <;> rfl
  | cons i is ih =>
    intro ws cs k hk
    cases cs with
    | nil => rfl
    | cons c cs =>
      show (fm_put (ws.set i c) is cs)[k]? = _
      rw [ih _ _ k (fun z => hk (List.mem_cons_of_mem _ z)), List.getElem?_set_ne (fun z => hk (by rw [z]; exact List.mem_cons_self))]
theorem fm_put_at (is : List Nat) : ∀ (ws wc cs : va_W), is.Nodup → is.map (fun i => ws[i]?) = wc.map some → cs.length = wc.length → is.map (fun i => (fm_put ws is cs)[i]?) = cs.map some := by
  induction is with
  | nil =>
    intro ws wc cs _ h hl
    cases wc with
    | nil => cases cs with
      | nil => rfl
      | cons c cs => simp at hl
    | cons w wc => simp at h
  | cons i is ih =>
    intro ws wc cs hn h hl
    cases wc with
    | nil => simp at h
    | cons w wc =>
      cases cs with
      | nil => simp at hl
      | cons c cs =>
        obtain ⟨hn1, hn2⟩ := List.nodup_cons.mp hn
        simp only [List.map_cons, List.cons.injEq] at h
        have hlt : i < ws.length := (List.getElem?_eq_some_iff.mp h.1).1
        have h2 : is.map (fun k => (ws.set i c)[k]?) = wc.map some := by
          rw [← h.2]
          exact List.map_congr_left (fun k hk => List.getElem?_set_ne (fun z => hn1 (by rw [z]; exact hk)))
        have h3 := ih (ws.set i c) wc cs hn2 h2 (by simpa using hl)
        simp only [List.map_cons]
        show (fm_put (ws.set i c) is cs)[i]? :: is.map (fun k => (fm_put (ws.set i c) is cs)[k]?) = _
        rw [h3, fm_put_no _ _ _ _ hn1, List.getElem?_set_self hlt]
theorem fm_put_adr (is : List Nat) : ∀ (ws wc cs : va_W), is.Nodup → is.map (fun i => ws[i]?) = wc.map some → cs.map Prod.fst = wc.map Prod.fst → (fm_put ws is cs).map Prod.fst = ws.map Prod.fst := by
  induction is with
  | nil => intro ws wc cs _ _ _; cases cs <;> rfl
  | cons i is ih =>
    intro ws wc cs hn h ha
    cases cs with
    | nil => rfl
    | cons c cs =>
      cases wc with
      | nil => simp at h
      | cons w wc =>
        obtain ⟨hn1, hn2⟩ := List.nodup_cons.mp hn
        simp only [List.map_cons, List.cons.injEq] at h ha
        have h2 : is.map (fun k => (ws.set i c)[k]?) = wc.map some := by
          rw [← h.2]
          exact List.map_congr_left (fun k hk => List.getElem?_set_ne (fun z => hn1 (by rw [z]; exact hk)))
        show (fm_put (ws.set i c) is cs).map Prod.fst = _
        rw [ih _ wc cs hn2 h2 ha.2]
        apply List.ext_getElem?
        intro k
        rw [List.getElem?_map, List.getElem?_map]
        by_cases e : i = k
        · subst e
          rw [List.getElem?_set_self (List.getElem?_eq_some_iff.mp h.1).1, h.1]
          exact congrArg some ha.1
        · rw [List.getElem?_set_ne e]
section FMPUT
variable {ws wc cs : va_W} {is : List Nat}
theorem fm_put_R : (fm_rs ws.length is).map (fun i => (fm_put ws is cs)[i]?) = (fm_rs ws.length is).map (fun i => ws[i]?) :=
  List.map_congr_left (fun k hk => fm_put_no is ws cs k (by have h := (List.mem_filter.mp hk).2; exact of_decide_eq_true h))
theorem fm_put_cov : ∀ i, i < (fm_put ws is cs).length → i ∈ is ∨ i ∈ fm_rs ws.length is := by
  intro i hi
  rw [fm_put_len] at hi
  by_cases h : i ∈ is
  · exact Or.inl h
  · exact Or.inr (List.mem_filter.mpr ⟨List.mem_range.mpr hi, decide_eq_true h⟩)
theorem fm_put_dis : ∀ i ∈ fm_rs ws.length is, i ∉ is := fun i hi => of_decide_eq_true (List.mem_filter.mp hi).2
end FMPUT
section FMWP
variable {p : Program} {l : Launch} {e : Env} {R : Room} {s : State} {m : MethodId} {args : Array Value} {below : List Frame} {meth : Method} {c : Code} {H H0 : Heap} {locs : List Loc} {cells slots : Nat} {Q : State → Prop}
variable {D : va_G} {y : MethodName} {bytes cc : ByteArray} {maxL nL n index pc ci : Nat} {ret : Option FieldType} {hh : List (Nat × Nat × Nat × Nat)} {rm : Room} {av : List Value} {ws wc wc' : va_W} {tys tysC : List (ClassId × FieldType)} {cd : Cond} {own : String} {ls : Array Slot} {rest st0 : List Value} {A : Nat → Prop} {ov : Option Value}
theorem fm_wvP {b : Nat} {As : List Value} {fs : List Value} {T : u_T} {N : Nat} (S : CallFix p m c cc nL s args (cd :: fm_T) own) (hM : fm_MW l D y (.code y bytes maxL ret :: fm_T) rm (.ref b :: As) wc wc' tysC ov) (hrc : rm.cells = 0) (hrs : rm.slots = 0)
    (ok : fm_Vok y bytes maxL ret n) (h1 : Cond.methodLink own index y ∈ fm_T) (hR : rm.frames + 1 ≤ R.frames ∧ 8 + (maxL + 11) + rm.locals ≤ R.locals) (hP : va_P D classes ws H) (hD : va_D A ws) (hS : va_S A H0 H locs) (hK : va_K D classes tysC s) (isC : List Nat) (hnd : va_nd isC = true) (hnu : isC.Nodup) (hC : isC.map (fun i => ws[i]?) = wc.map some) (q0 : Nat) (he : wc[q0]? = some (b, .inr (ci, fs))) (hc : classes[ci]? = some (y.cls, T, N))
    (hn : As.length = n) (hsize : ls.size = nL) (hst : st0 = As.reverse ++ .ref b :: rest) (hW : (rest.map fun v => v.category).sum ≤ 8) (hf : cells ≤ R.cells ∧ slots ≤ R.slots) (hdg : decode cc pc = .ok (.invokevirtual index, 3)) (ha : wc'.map Prod.fst = wc.map Prod.fst)
    (k : ∀ (H1 : Heap) (locs1 : List Loc), va_P D classes (fm_put ws isC wc') H1 → va_D A (fm_put ws isC wc') → va_S A H0 H1 locs1 → W p l e R s m args below meth c H1 locs1 cells slots Q (F0 m (pc + 3) ls (ov.toList ++ rest))) : W p l e R s m args below meth c H locs cells slots Q (F0 m pc ls st0) :=
  fm_wv S hM hrc hrs ok h1 hR hP hD hS hK isC hnd hC q0 he hc hn hsize hst hW hf hdg (fm_put ws isC wc') (fm_rs ws.length isC) (fm_put_at isC ws wc wc' hnu hC (by have := congrArg List.length ha; simpa using this)) fm_put_R fm_put_cov fm_put_dis (fm_put_adr isC ws wc wc' hnu hC ha) k
theorem fm_xvP {St : Type} {φ : St → Prop} {ov : St → Option Value} {wcf : St → va_W} {b : Nat} {As : List Value} {fs : List Value} {T : u_T} {N : Nat} (S : CallFix p m c cc nL s args (cd :: fm_T) own) (hM : fm_MX l D y (.code y bytes maxL ret :: fm_T) rm (.ref b :: As) wc tysC φ ov wcf) (hrc : rm.cells = 0) (hrs : rm.slots = 0)
    (ok : fm_Vok y bytes maxL ret n) (h1 : Cond.methodLink own index y ∈ fm_T) (hR : rm.frames + 1 ≤ R.frames ∧ 8 + (maxL + 11) + rm.locals ≤ R.locals) (hP : va_P D classes ws H) (hD : va_D A ws) (hS : va_S A H0 H locs) (hK : va_K D classes tysC s) (isC : List Nat) (hnd : va_nd isC = true) (hnu : isC.Nodup) (hC : isC.map (fun i => ws[i]?) = wc.map some) (q0 : Nat) (he : wc[q0]? = some (b, .inr (ci, fs))) (hc : classes[ci]? = some (y.cls, T, N))
    (hn : As.length = n) (hsize : ls.size = nL) (hst : st0 = As.reverse ++ .ref b :: rest) (hW : (rest.map fun v => v.category).sum ≤ 8) (hf : cells ≤ R.cells ∧ slots ≤ R.slots) (hdg : decode cc pc = .ok (.invokevirtual index, 3)) (ha : ∀ u, (wcf u).map Prod.fst = wc.map Prod.fst)
    (k : ∀ (u : St), φ u → ∀ (H1 : Heap) (locs1 : List Loc), va_P D classes (fm_put ws isC (wcf u)) H1 → va_D A (fm_put ws isC (wcf u)) → va_S A H0 H1 locs1 → W p l e R s m args below meth c H1 locs1 cells slots Q (F0 m (pc + 3) ls ((ov u).toList ++ rest))) : W p l e R s m args below meth c H locs cells slots Q (F0 m pc ls st0) :=
  fm_xv S hM hrc hrs ok h1 hR hP hD hS hK isC hnd hC q0 he hc hn hsize hst hW hf hdg (fun u => fm_put ws isC (wcf u)) (fm_rs ws.length isC) (fun u => fm_put_at isC ws wc (wcf u) hnu hC (by have := congrArg List.length (ha u); simpa using this)) (fun _ => fm_put_R) (fun _ => fm_put_cov) fm_put_dis (fun u => fm_put_adr isC ws wc (wcf u) hnu hC (ha u)) k
theorem fm_xswP {St : Type} {φ : St → Prop} {ov : St → Option Value} {wcf : St → va_W} {As : List Value} (S : CallFix p m c cc nL s args (cd :: fm_T) own) (hM : fm_MX l D y (.codeWith y bytes maxL ret hh :: fm_T) rm As wc tysC φ ov wcf) (hrc : rm.cells = 0) (hrs : rm.slots = 0)
    (ok : fm_SWok y bytes maxL ret hh n) (h1 : Cond.methodLink own index y ∈ fm_T) (hR : rm.frames + 1 ≤ R.frames ∧ 8 + (maxL + 11) + rm.locals ≤ R.locals) (hP : va_P D classes ws H) (hD : va_D A ws) (hS : va_S A H0 H locs) (hK : va_K D classes tysC s) (isC : List Nat) (hnd : va_nd isC = true) (hnu : isC.Nodup) (hC : isC.map (fun i => ws[i]?) = wc.map some)
    (hn : As.length = n) (hsize : ls.size = nL) (hst : st0 = As.reverse ++ rest) (hW : (rest.map fun v => v.category).sum ≤ 8) (hf : cells ≤ R.cells ∧ slots ≤ R.slots) (hdg : decode cc pc = .ok (.invokestatic index, 3)) (ha : ∀ u, (wcf u).map Prod.fst = wc.map Prod.fst)
    (k : ∀ (u : St), φ u → ∀ (H1 : Heap) (locs1 : List Loc), va_P D classes (fm_put ws isC (wcf u)) H1 → va_D A (fm_put ws isC (wcf u)) → va_S A H0 H1 locs1 → W p l e R s m args below meth c H1 locs1 cells slots Q (F0 m (pc + 3) ls ((ov u).toList ++ rest))) : W p l e R s m args below meth c H locs cells slots Q (F0 m pc ls st0) :=
  fm_xsw S hM hrc hrs ok h1 hR hP hD hS hK isC hnd hC hn hsize hst hW hf hdg (fun u => fm_put ws isC (wcf u)) (fm_rs ws.length isC) (fun u => fm_put_at isC ws wc (wcf u) hnu hC (by have := congrArg List.length (ha u); simpa using this)) (fun _ => fm_put_R) (fun _ => fm_put_cov) fm_put_dis (fun u => fm_put_adr isC ws wc (wcf u) hnu hC (ha u)) k
theorem fm_wswP {As : List Value} (S : CallFix p m c cc nL s args (cd :: fm_T) own) (hM : fm_MW l D y (.codeWith y bytes maxL ret hh :: fm_T) rm As wc wc' tysC ov) (hrc : rm.cells = 0) (hrs : rm.slots = 0)
    (ok : fm_SWok y bytes maxL ret hh n) (h1 : Cond.methodLink own index y ∈ fm_T) (hR : rm.frames + 1 ≤ R.frames ∧ 8 + (maxL + 11) + rm.locals ≤ R.locals) (hP : va_P D classes ws H) (hD : va_D A ws) (hS : va_S A H0 H locs) (hK : va_K D classes tysC s) (isC : List Nat) (hnd : va_nd isC = true) (hnu : isC.Nodup) (hC : isC.map (fun i => ws[i]?) = wc.map some)
    (hn : As.length = n) (hsize : ls.size = nL) (hst : st0 = As.reverse ++ rest) (hW : (rest.map fun v => v.category).sum ≤ 8) (hf : cells ≤ R.cells ∧ slots ≤ R.slots) (hdg : decode cc pc = .ok (.invokestatic index, 3)) (ha : wc'.map Prod.fst = wc.map Prod.fst)
    (k : ∀ (H1 : Heap) (locs1 : List Loc), va_P D classes (fm_put ws isC wc') H1 → va_D A (fm_put ws isC wc') → va_S A H0 H1 locs1 → W p l e R s m args below meth c H1 locs1 cells slots Q (F0 m (pc + 3) ls (ov.toList ++ rest))) : W p l e R s m args below meth c H locs cells slots Q (F0 m pc ls st0) :=
  fm_wsw S hM hrc hrs ok h1 hR hP hD hS hK isC hnd hC hn hsize hst hW hf hdg (fm_put ws isC wc') (fm_rs ws.length isC) (fm_put_at isC ws wc wc' hnu hC (by have := congrArg List.length ha; simpa using this)) fm_put_R fm_put_cov fm_put_dis (fm_put_adr isC ws wc wc' hnu hC ha) k
end FMWP
