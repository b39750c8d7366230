/-! ROWS for constructors -/
/-- a constructor: from the new object's cell it comes to the cells wsf u for some u; what it makes is new -/
def fm_MN {S : Type} (l : Launch) (D : va_G) (y : MethodName) (w : List Cond) (rm : Room) (h sz ci : Nat) (fs : List Value) (tys : List (ClassId × FieldType)) (wsf : S → va_W) (mc ms : Nat) : Prop :=
  Met l y w rm (va_Pc [.ref h] (fun U => U.heap.size = sz ∧ va_P D classes [(h, .inr (ci, fs))] U.heap ∧ va_K D classes tys U)) (fun _ st oc t => oc = .returned none ∧ (∃ u : S, va_P D classes (wsf u) t.heap ∧ va_D (va_A [(h, .inr (ci, fs))] sz) (wsf u)) ∧ va_F (va_A [(h, .inr (ci, fs))] sz) st t) mc ms (va_A [(h, .inr (ci, fs))] sz)
def fm_Iok (y : MethodName) (b : ByteArray) (n : Nat) : Prop :=
  Cond.instanceMethod y ∈ fm_T ∧ Cond.initialized y.cls ∈ fm_T ∧ Cond.code y b n none ∈ fm_T ∧ y.name = "<init>" ∧ (y.cls ≠ "java/lang/invoke/MethodHandle" ∧ y.cls ≠ "java/lang/invoke/VarHandle" ∧ (parseMethodDescriptor y.desc).map (fun d => d.parameters.length) = some 0)
theorem fm_blindN {D : va_G} {av : List Value} {ws : va_W} {sz : Nat} {tys : List (ClassId × FieldType)} : FrameBlind (va_Pc av (fun U => U.heap.size = sz ∧ va_P D classes ws U.heap ∧ va_K D classes tys U)) := fun a U g mk q => by
  obtain ⟨q0, qs, qP, qK⟩ := q
  exact ⟨q0, qs, qP, va_K.moved (u := U) (U := U.calling g mk a) (Vm.Alike.refl U.vm) qK⟩
theorem fm_one {h ci : Nat} {fs : List Value} {A : Nat → Prop} (hA : A h) : va_D A [(h, .inr (ci, fs))] := by
  refine ⟨fun i j p q hp hq _ => ?_, fun k q hk => ?_⟩
  · have h1 := (List.getElem?_eq_some_iff.mp hp).1
    have h2 := (List.getElem?_eq_some_iff.mp hq).1
    simp at h1 h2
    omega
  · have h1 := (List.getElem?_eq_some_iff.mp hk).1
    simp at h1
    subst h1
    cases hk
    exact hA
/-- an array type's number, out of the tables -/
theorem fm_arrK {s : State} {args : Array Value} {ty : FieldType} (harr : (Cond.arrayClass ty).before args s = true) : ∃ cA : ClassId, ArrOfT s cA ty ∧ s.vm.findClass ("[" ++ ty.toString) = some cA := by
  obtain ⟨cA, kA, comp, hfind, hk, hkind⟩ := Cond.arrayClass_spec harr
  exact ⟨cA, fun n z => ⟨fun k h => (by cases h), kA, hk, comp, hkind⟩, hfind⟩
section FMN
variable {p : Program} {l : Launch} {e : Env} {R : Room} {s : State} {m : MethodId} {args : Array Value} {below : List Frame} {meth : Method} {c : Code} {H H0 : Heap} {locs : List Loc} {cells slots : Nat} {Q : State → Prop}
variable {D : va_G} {y : MethodName} {bytes cc : ByteArray} {maxL nL index pc ci b mc ms : Nat} {rm : Room} {ws wr : va_W} {fs : List Value} {tysC : List (ClassId × FieldType)} {cd : Cond} {own : String} {ls : Array Slot} {rest st0 : List Value} {A : Nat → Prop}
theorem fm_nv {St : Type} {wsf : St → va_W} (S : CallFix p m c cc nL s args (cd :: fm_T) own) (hM : ∀ sz, fm_MN l D y (.code y bytes maxL none :: fm_T) rm b sz ci fs tysC wsf mc ms) (hrc : rm.cells = mc) (hrs : rm.slots = ms)
    (ok : fm_Iok y bytes maxL) (h1 : Cond.methodLink own index y ∈ fm_T) (hR : rm.frames + 1 ≤ R.frames ∧ 8 + (maxL + 11) + rm.locals ≤ R.locals) (hP : va_P D classes ws H) (hD : va_D A ws) (hS : va_S A H0 H locs) (hA : ∀ q, H0.size ≤ q → A q) (hK : va_K D classes tysC s) (isC isR : List Nat) (hC : isC.map (fun i => ws[i]?) = ([(b, .inr (ci, fs))] : va_W).map some) (hRr : isR.map (fun i => ws[i]?) = wr.map some) (hnd : va_nd isR = true) (hdis : ∀ i ∈ isR, i ∉ isC)
    (hsize : ls.size = nL) (hst : st0 = .ref b :: rest) (hW : (rest.map fun v => v.category).sum ≤ 8) (hf : cells + mc ≤ R.cells ∧ slots + ms ≤ R.slots) (hdg : decode cc pc = .ok (.invokespecial index, 3))
    (k : ∀ (u : St) (H1 : Heap) (locs1 : List Loc), va_P D classes (wr ++ wsf u) H1 → va_D A (wr ++ wsf u) → va_S A H0 H1 locs1 → W p l e R s m args below meth c H1 locs1 (cells + mc) (slots + ms) Q (F0 m (pc + 3) ls rest)) : W p l e R s m args below meth c H locs cells slots Q (F0 m pc ls st0) := by
  obtain ⟨k0, k1, k2, k3, k4⟩ := ok
  have hb : ∀ w ∈ fm_T, w ∈ cd :: fm_T := fun w h => List.mem_cons_of_mem _ h
  have hFc := va_free hD hS hA isC hC
  have hPc : va_P D classes [(b, .inr (ci, fs))] H := fm_subP hP hC
  have hrun := va_runI (p := p) (l := l) (e := e) (R := R) (s := s) (m := m) (args := args) (below := below) (meth := meth) (c := c) (H := H) (locs := locs) (cells := cells) (slots := slots) (As := []) (g := F0 m pc ls st0) (rest := rest) S (hM H.size) (cwI 0 S.2.2.2.2 (ws' := fm_T) (fm_good hb (fm_allT k2)) rfl hrc hrs (S.2.2.2.2 _ (hb _ k1)) (S.2.2.2.2 _ (hb _ h1)) (S.2.2.2.2 _ (hb _ k0)) k3 k4 hR) ⟨fm_blindN, fun U hU hWa => ⟨rfl, by rw [hU], by rw [hU]; exact hPc, va_K.moved hWa.alike hK⟩⟩ rfl rfl hsize hst (lv_room hW) hdg hf
  intro T hT X
  obtain ⟨v, st₀, t, T', L, h0, X', hL, e1, -, ⟨hv, ⟨u, hP1, hD1⟩, hz, hk⟩, st⟩ := hrun T hT X
  cases hv
  rw [h0] at hz hk
  obtain ⟨hP2, hD2⟩ := va_join hP hD isC isR hC hRr hnd hdis hk hFc hP1 hD1
  obtain ⟨t2, a1, b1⟩ := k u T'.heap (locs ++ L) (by rw [e1]; exact hP2) hD2 ⟨Nat.le_trans hS.1 (by rw [e1]; exact hz), fun q h1 h2 => by rw [e1, hk q (Nat.lt_of_lt_of_le h1 hS.1) (fun z => h2 (hFc q z))]; exact hS.2.1 q h1 h2, fun q hq => by
      rcases List.mem_append.mp hq with h | h
      · exact hS.2.2 q h
      · exact hFc _ (hL q h)⟩ T' rfl X'
  exact ⟨t2, st t2 a1, b1⟩
end FMN
