/-! ROWS OF MY OWN over the kit: one list of words for all methods; contracts of methods that only look -/
/-- the words that stay good in every state of the run -/
def fm_T : List Cond := lw_tbl.filter goodWord
theorem fm_inT {w : Cond} (h : w ∈ lw_tbl) (hg : goodWord w = true) : w ∈ fm_T := List.mem_filter.mpr ⟨h, hg⟩
theorem fm_ofT {w : Cond} (h : w ∈ fm_T) : w ∈ lw_tbl ∧ ((w.onTables && w.keeps) = true ∨ ∃ ty, w = .arrayClass ty) := ⟨(List.mem_filter.mp h).1, good_of_word (List.mem_filter.mp h).2⟩
theorem fm_good {big ws : List Cond} (hb : ∀ w ∈ fm_T, w ∈ big) (h : ∀ w ∈ ws, w ∈ fm_T) : GoodIn big ws := fun w hw => ⟨hb w (h w hw), (fm_ofT (h w hw)).2⟩
theorem fm_allT {y : MethodName} {b : ByteArray} {n : Nat} {r : Option FieldType} (h : Cond.code y b n r ∈ fm_T) : ∀ w ∈ (Cond.code y b n r :: fm_T), w ∈ fm_T := fun w hw => by
  rcases List.mem_cons.mp hw with h1 | h1
  · rw [h1]; exact h
  · exact h1
/-- what is to be known of a static method that is called -/
def fm_Sok (y : MethodName) (b : ByteArray) (n : Nat) (r : Option FieldType) (k : Nat) : Prop :=
  Cond.static y ∈ fm_T ∧ Cond.initialized y.cls ∈ fm_T ∧ Cond.code y b n r ∈ fm_T ∧ (y.cls ≠ "java/lang/invoke/MethodHandle" ∧ y.cls ≠ "java/lang/invoke/VarHandle" ∧ (parseMethodDescriptor y.desc).map (fun d => d.parameters.length) = some k)
/-- ... of a method of an object -/
def fm_Vok (y : MethodName) (b : ByteArray) (n : Nat) (r : Option FieldType) (k : Nat) : Prop :=
  Cond.instanceMethod y ∈ fm_T ∧ Cond.selects y.cls y y ∈ fm_T ∧ Cond.initialized y.cls ∈ fm_T ∧ Cond.code y b n r ∈ fm_T ∧ (y.cls ≠ "java/lang/invoke/MethodHandle" ∧ y.cls ≠ "java/lang/invoke/VarHandle" ∧ (parseMethodDescriptor y.desc).map (fun d => d.parameters.length) = some k)
/-- a method that only looks: from the cells ws, with the arguments av, it answers v and changes nothing -/
def fm_M (l : Launch) (D : va_G) (y : MethodName) (w : List Cond) (rm : Room) (av : List Value) (ws : va_W) (tys : List (ClassId × FieldType)) (v : Int32) : Prop :=
  Met l y w rm (va_Pc av (fun U => va_P D classes ws U.heap ∧ va_K D classes tys U)) (vp_Si (fun r => r = v)) 0 0 (fun _ => False)
def fm_ML (l : Launch) (D : va_G) (y : MethodName) (w : List Cond) (rm : Room) (av : List Value) (ws : va_W) (tys : List (ClassId × FieldType)) (v : Int64) : Prop :=
  Met l y w rm (va_Pc av (fun U => va_P D classes ws U.heap ∧ va_K D classes tys U)) (vp_Sl (fun r => r = v)) 0 0 (fun _ => False)
def fm_MV (l : Launch) (D : va_G) (y : MethodName) (w : List Cond) (rm : Room) (av : List Value) (ws : va_W) (tys : List (ClassId × FieldType)) : Prop :=
  Met l y w rm (va_Pc av (fun U => va_P D classes ws U.heap ∧ va_K D classes tys U)) (va_Sv (fun _ => True)) 0 0 (fun _ => False)
theorem fm_blind {D : va_G} {av : List Value} {ws : va_W} {tys : List (ClassId × FieldType)} : FrameBlind (va_Pc av (fun U => va_P D classes ws U.heap ∧ va_K D classes tys U)) := fun a U g mk q => by
  obtain ⟨q0, qP, qK⟩ := q
  exact ⟨q0, qP, va_K.moved (u := U) (U := U.calling g mk a) (Vm.Alike.refl U.vm) qK⟩
section FMR
variable {p : Program} {l : Launch} {e : Env} {R : Room} {s : State} {m : MethodId} {args : Array Value} {below : List Frame} {meth : Method} {c : Code} {H : Heap} {locs : List Loc} {cells slots : Nat} {Q : State → Prop}
variable {D : va_G} {y : MethodName} {bytes cc : ByteArray} {maxL nL n index pc ci : Nat} {ret : Option FieldType} {rm : Room} {av : List Value} {ws : va_W} {tys : List (ClassId × FieldType)} {cd : Cond} {own : String} {ls : Array Slot} {rest st0 : List Value}
/-- the top value by another name -/
theorem fm_tw {x z : Int32} (h : x = z) (k : W p l e R s m args below meth c H locs cells slots Q (F0 m pc ls (.int z :: rest))) : W p l e R s m args below meth c H locs cells slots Q (F0 m pc ls (.int x :: rest)) := h ▸ k
theorem fm_twl {x z : Int64} (h : x = z) (k : W p l e R s m args below meth c H locs cells slots Q (F0 m pc ls (.long z :: rest))) : W p l e R s m args below meth c H locs cells slots Q (F0 m pc ls (.long x :: rest)) := h ▸ k
theorem fm_runS {w : List Cond} {Qc : Array Value → State → Outcome → State → Prop} (S : CallFix p m c cc nL s args (cd :: fm_T) own) (hM : Met l y (.code y bytes maxL ret :: fm_T) rm (va_Pc av (fun U => va_P D classes ws U.heap ∧ va_K D classes tys U)) Qc 0 0 (fun _ => False)) (hrc : rm.cells = 0) (hrs : rm.slots = 0)
    (ok : fm_Sok y bytes maxL ret n) (h1 : Cond.methodLink own index y ∈ fm_T) (hR : rm.frames + 1 ≤ R.frames ∧ 8 + (maxL + 11) + rm.locals ≤ R.locals) (hP : va_P D classes ws H) (hK : va_K D classes tys s)
    (hn : av.length = n) (hsize : ls.size = nL) (hst : st0 = av.reverse ++ rest) (hW : (rest.map fun v => v.category).sum ≤ 8) (hf : cells ≤ R.cells ∧ slots ≤ R.slots) (hdg : decode cc pc = .ok (.invokestatic index, 3)) :
    CallRun p l e R s m args below meth c H locs cells slots 0 0 (F0 m pc ls st0) rest (Qc av.toArray) (fun _ => False) := by
  obtain ⟨k1, k2, k3, k4⟩ := ok
  have hb : ∀ w ∈ fm_T, w ∈ cd :: fm_T := fun w h => List.mem_cons_of_mem _ h
  refine W.runS S hM (va_cwS n S.2.2.2.2 (ws := .code y bytes maxL ret :: fm_T) (ws' := fm_T) (fm_good hb (fun w hw => ?_)) rfl hrc hrs k4 hR) ⟨fm_blind, fun U hU hWa => ⟨rfl, by rw [hU]; exact hP, va_K.moved hWa.alike hK⟩⟩ rfl hn hsize hst (lv_room hW) hdg hf
  rcases List.mem_append.mp hw with h | h
  · simp only [List.mem_cons, List.not_mem_nil, or_false] at h
    rcases h with h | h | h
    · rw [h]; exact h1
    · rw [h]; exact k1
    · rw [h]; exact k2
  · exact fm_allT k3 w h
theorem fm_cs {v : Int32} (S : CallFix p m c cc nL s args (cd :: fm_T) own) (hM : fm_M l D y (.code y bytes maxL ret :: fm_T) rm av ws tys v) (hrc : rm.cells = 0) (hrs : rm.slots = 0)
    (ok : fm_Sok y bytes maxL ret n) (h1 : Cond.methodLink own index y ∈ fm_T) (hR : rm.frames + 1 ≤ R.frames ∧ 8 + (maxL + 11) + rm.locals ≤ R.locals) (hP : va_P D classes ws H) (hK : va_K D classes tys s)
    (hn : av.length = n) (hsize : ls.size = nL) (hst : st0 = av.reverse ++ rest) (hW : (rest.map fun v => v.category).sum ≤ 8) (hf : cells ≤ R.cells ∧ slots ≤ R.slots) (hdg : decode cc pc = .ok (.invokestatic index, 3))
    (k : W p l e R s m args below meth c H locs cells slots Q (F0 m (pc + 3) ls (.int v :: rest))) : W p l e R s m args below meth c H locs cells slots Q (F0 m pc ls st0) :=
  vp_callSi (fm_runS (w := []) S hM hrc hrs ok h1 hR hP hK hn hsize hst hW hf hdg) (fun r hr => by subst hr; exact k)
theorem fm_runV {Qc : Array Value → State → Outcome → State → Prop} {b : Nat} {As : List Value} {q0 : Nat} {fs : List Value} {T : u_T} {N : Nat} (S : CallFix p m c cc nL s args (cd :: fm_T) own) (hM : Met l y (.code y bytes maxL ret :: fm_T) rm (va_Pc (.ref b :: As) (fun U => va_P D classes ws U.heap ∧ va_K D classes tys U)) Qc 0 0 (fun _ => False)) (hrc : rm.cells = 0) (hrs : rm.slots = 0)
    (ok : fm_Vok y bytes maxL ret n) (h1 : Cond.methodLink own index y ∈ fm_T) (hR : rm.frames + 1 ≤ R.frames ∧ 8 + (maxL + 11) + rm.locals ≤ R.locals) (hP : va_P D classes ws H) (hK : va_K D classes tys s) (q0 : Nat) (he : ws[q0]? = some (b, .inr (ci, fs))) (hc : classes[ci]? = some (y.cls, T, N))
    (hn : As.length = n) (hsize : ls.size = nL) (hst : st0 = As.reverse ++ .ref b :: rest) (hW : (rest.map fun v => v.category).sum ≤ 8) (hf : cells ≤ R.cells ∧ slots ≤ R.slots) (hdg : decode cc pc = .ok (.invokevirtual index, 3)) :
    CallRun p l e R s m args below meth c H locs cells slots 0 0 (F0 m pc ls st0) rest (Qc (Value.ref b :: As).toArray) (fun _ => False) := by
  obtain ⟨k0, k1, k2, k3, k4⟩ := ok
  have hb : ∀ w ∈ fm_T, w ∈ cd :: fm_T := fun w h => List.mem_cons_of_mem _ h
  refine W.runV (C := y.cls) S hM (cwV n S.2.2.2.2 (ws := .code y bytes maxL ret :: fm_T) (ws' := fm_T) (fm_good hb (fun w hw => ?_)) rfl hrc hrs ⟨rfl, k4⟩ hR) ⟨fm_blind, va_recv hK hP hc he, fun U hU hWa => ⟨rfl, by rw [hU]; exact hP, va_K.moved hWa.alike hK⟩⟩ rfl hn hsize hst (lv_room hW) hdg hf
  rcases List.mem_append.mp hw with h | h
  · simp only [List.mem_cons, List.not_mem_nil, or_false] at h
    rcases h with h | h | h | h
    · rw [h]; exact h1
    · rw [h]; exact k0
    · rw [h]; exact k1
    · rw [h]; exact k2
  · exact fm_allT k3 w h
theorem fm_cv {v : Int32} {b : Nat} {As : List Value} {fs : List Value} {T : u_T} {N : Nat} (S : CallFix p m c cc nL s args (cd :: fm_T) own) (hM : fm_M l D y (.code y bytes maxL ret :: fm_T) rm (.ref b :: As) ws tys v) (hrc : rm.cells = 0) (hrs : rm.slots = 0)
    (ok : fm_Vok y bytes maxL ret n) (h1 : Cond.methodLink own index y ∈ fm_T) (hR : rm.frames + 1 ≤ R.frames ∧ 8 + (maxL + 11) + rm.locals ≤ R.locals) (hP : va_P D classes ws H) (hK : va_K D classes tys s) (q0 : Nat) (he : ws[q0]? = some (b, .inr (ci, fs))) (hc : classes[ci]? = some (y.cls, T, N))
    (hn : As.length = n) (hsize : ls.size = nL) (hst : st0 = As.reverse ++ .ref b :: rest) (hW : (rest.map fun v => v.category).sum ≤ 8) (hf : cells ≤ R.cells ∧ slots ≤ R.slots) (hdg : decode cc pc = .ok (.invokevirtual index, 3))
    (k : W p l e R s m args below meth c H locs cells slots Q (F0 m (pc + 3) ls (.int v :: rest))) : W p l e R s m args below meth c H locs cells slots Q (F0 m pc ls st0) :=
  vp_callSi (fm_runV (q0 := q0) S hM hrc hrs ok h1 hR hP hK q0 he hc hn hsize hst hW hf hdg) (fun r hr => by subst hr; exact k)
end FMR
section FML
variable {p : Program} {l : Launch} {e : Env} {R : Room} {s : State} {m : MethodId} {args : Array Value} {below : List Frame} {meth : Method} {c : Code} {H : Heap} {locs : List Loc} {cells slots : Nat} {Q : State → Prop} {pc nL : Nat}
/-- loops over a heap that stays: by a measure that falls -/
theorem fm_loop1 {A1 : Type} (LV : A1 → List (Nat × Value)) (I : A1 → Prop) (μ : A1 → Nat)
    (step : ∀ (a : A1), I a → (∀ (b : A1) (ls : Array Slot), I b → μ b < μ a → lv_has ls nL (LV b) → W p l e R s m args below meth c H locs cells slots Q (F0 m pc ls [])) → ∀ ls : Array Slot, lv_has ls nL (LV a) → W p l e R s m args below meth c H locs cells slots Q (F0 m pc ls []))
    (a : A1) (h : I a) (ls : Array Slot) (hl : lv_has ls nL (LV a)) : W p l e R s m args below meth c H locs cells slots Q (F0 m pc ls []) := by
  have key : ∀ (n : Nat) (a : A1), μ a < n → I a → ∀ ls : Array Slot, lv_has ls nL (LV a) → W p l e R s m args below meth c H locs cells slots Q (F0 m pc ls []) := by
    intro n
    induction n with
    | zero => intro a h; exact absurd h (Nat.not_lt_zero _)
    | succ n ih =>
      intro a ha hI ls hl
      exact step a hI (fun b ls' hb hm hl' => ih b (Nat.lt_of_lt_of_le hm (Nat.lt_succ_iff.mp ha)) hb ls' hl') ls hl
  exact key (μ a + 1) a (Nat.lt_succ_self _) h ls hl
theorem fm_join {q : Nat} {LV : List (Nat × Value)} {g : JFrame} (h : ∀ ls : Array Slot, lv_has ls nL LV → W p l e R s m args below meth c H locs cells slots Q (F0 m q ls []))
    (k : (∀ ls : Array Slot, lv_has ls nL LV → W p l e R s m args below meth c H locs cells slots Q (F0 m q ls [])) → W p l e R s m args below meth c H locs cells slots Q g) : W p l e R s m args below meth c H locs cells slots Q g := k h
theorem fm_loop2 {A1 A2 : Type} (LV : A1 → A2 → List (Nat × Value)) (I : A1 → A2 → Prop) (μ : A1 → A2 → Nat)
    (step : ∀ (a : A1) (a2 : A2), I a a2 → (∀ (b : A1) (b2 : A2) (ls : Array Slot), I b b2 → μ b b2 < μ a a2 → lv_has ls nL (LV b b2) → W p l e R s m args below meth c H locs cells slots Q (F0 m pc ls [])) → ∀ ls : Array Slot, lv_has ls nL (LV a a2) → W p l e R s m args below meth c H locs cells slots Q (F0 m pc ls []))
    (a : A1) (a2 : A2) (h : I a a2) (ls : Array Slot) (hl : lv_has ls nL (LV a a2)) : W p l e R s m args below meth c H locs cells slots Q (F0 m pc ls []) :=
  fm_loop1 (A1 := A1 × A2) (fun q => LV q.1 q.2) (fun q => I q.1 q.2) (fun q => μ q.1 q.2) (fun q hq ih ls hl => step q.1 q.2 hq (fun b b2 ls' h1 h2 h3 => ih (b, b2) ls' h1 h2 h3) ls hl) (a, a2) h ls hl
theorem fm_loop3 {A1 A2 A3 : Type} (LV : A1 → A2 → A3 → List (Nat × Value)) (I : A1 → A2 → A3 → Prop) (μ : A1 → A2 → A3 → Nat)
    (step : ∀ (a : A1) (a2 : A2) (a3 : A3), I a a2 a3 → (∀ (b : A1) (b2 : A2) (b3 : A3) (ls : Array Slot), I b b2 b3 → μ b b2 b3 < μ a a2 a3 → lv_has ls nL (LV b b2 b3) → W p l e R s m args below meth c H locs cells slots Q (F0 m pc ls [])) → ∀ ls : Array Slot, lv_has ls nL (LV a a2 a3) → W p l e R s m args below meth c H locs cells slots Q (F0 m pc ls []))
    (a : A1) (a2 : A2) (a3 : A3) (h : I a a2 a3) (ls : Array Slot) (hl : lv_has ls nL (LV a a2 a3)) : W p l e R s m args below meth c H locs cells slots Q (F0 m pc ls []) :=
  fm_loop1 (A1 := A1 × A2 × A3) (fun q => LV q.1 q.2.1 q.2.2) (fun q => I q.1 q.2.1 q.2.2) (fun q => μ q.1 q.2.1 q.2.2) (fun q hq ih ls hl => step q.1 q.2.1 q.2.2 hq (fun b b2 b3 ls' h1 h2 h3 => ih (b, b2, b3) ls' h1 h2 h3) ls hl) (a, a2, a3) h ls hl
end FML
