/-! ROWS for what throws -/
abbrev fm_IA : String := "java/lang/IllegalArgumentException"
abbrev fm_IS : String := "java/lang/IllegalStateException"
abbrev fm_IO : String := "java/lang/IndexOutOfBoundsException"
abbrev fm_up : List String := ["java/lang/RuntimeException", "java/lang/Exception"]
/-- the words of a throw that no list of good words holds -/
abbrev fm_TW : List Cond := [.castable fm_IA fm_IA, .castable fm_IS fm_IS, .castable fm_IO fm_IO, .declares ⟨"java/lang/RuntimeException", "<init>", "(Ljava/lang/String;)V"⟩, .declares ⟨"java/lang/Exception", "<init>", "(Ljava/lang/String;)V"⟩, .declares ⟨"java/lang/Throwable", "<init>", "(Ljava/lang/String;)V"⟩]
abbrev fm_Sx : List (Nat × String) := [(56, "the size is not 0 .. 134217727"), (195, "no font is loaded"), (116, "nothing is known by this number"), (198, "the character is not there"), (146, "no such byte of a recipe"), (155, "no such parameter"), (200, "no such item")]
/-- what a throw needs of the state beside good words -/
def fm_TH (U : State) (H : Heap) : Prop := (∀ w ∈ fm_TW, va_Nw w U) ∧ (∀ q ∈ fm_Sx, ∃ a, vk_R R_FM q.1 q.2 a U) ∧ vx_Zq Bundle.tN "UNASSIGNED_STACK" Bundle.steD (fun _ => False) U H ∧ vx_Zq Bundle.tN "SUPPRESSED_SENTINEL" Bundle.listD (fun _ => False) U H
theorem fm_TH.moved {s U : State} {H : Heap} (hW : s.WarmedH U.vm) (h : fm_TH s H) : fm_TH U H := by
  obtain ⟨h1, h2, h3, h4⟩ := h
  refine ⟨fun w hw => ?_, fun q hq => ?_, vx_Zq.moved hW.alike h3, vx_Zq.moved hW.alike h4⟩
  · have h5 := h1 w hw
    simp only [fm_TW, List.mem_cons, List.not_mem_nil, or_false] at hw
    rcases hw with rfl | rfl | rfl | rfl | rfl | rfl
    · exact va_Nw.warmC hW h5
    · exact va_Nw.warmC hW h5
    · exact va_Nw.warmC hW h5
    · exact va_Nw.warmD hW h5
    · exact va_Nw.warmD hW h5
    · exact va_Nw.warmD hW h5
  · obtain ⟨a, ha⟩ := h2 q hq
    exact ⟨a, vk_R.warm hW ha⟩
theorem fm_TH.kept {s : State} {H H1 : Heap} (hq : ∀ a : Nat, a < H.size → H1[a]? = H[a]?) (h : fm_TH s H) : fm_TH s H1 := ⟨h.1, h.2.1, vx_Zq.kept h.2.2.1 (fun a ha _ => hq a ha), vx_Zq.kept h.2.2.2 (fun a ha _ => hq a ha)⟩
theorem fm_blindT {D : va_G} {av : List Value} {ws : va_W} {tys : List (ClassId × FieldType)} : FrameBlind (va_Pc av (fun U => va_P D classes ws U.heap ∧ va_K D classes tys U ∧ fm_TH U U.heap)) := fun a U g mk q => by
  obtain ⟨q0, qP, qK, qT⟩ := q
  exact ⟨q0, qP, va_K.moved (u := U) (U := U.calling g mk a) (Vm.Alike.refl U.vm) qK, fm_TH.moved (U := U.calling g mk a) (State.WarmedH.refl U) qT⟩
/-- it throws an E, and nothing that was there has changed -/
def fm_XC (E : String) : String → State → State → Prop := vx_X (S := Unit) (fun _ => True) (fun E' _ _ => E' = E) (fun _ => False)
/-- a method that throws an E: from the cells ws, with the arguments av -/
def fm_MT (l : Launch) (D : va_G) (y : MethodName) (w : List Cond) (rm : Room) (av : List Value) (ws : va_W) (tys : List (ClassId × FieldType)) (E : String) : Prop :=
  vx_Met l y w rm (va_Pc av (fun U => va_P D classes ws U.heap ∧ va_K D classes tys U ∧ fm_TH U U.heap)) (fun _ _ _ _ => False) (fm_XC E) 1 6 (fun _ => False)
/-- what is to be known of a class that is thrown -/
def fm_Eok (E : String) (ik ic : Nat) : Prop := Bundle.fit E = true ∧ Cond.classLink R_FM ik E ∈ fm_T ∧ Cond.initialized E ∈ fm_T ∧ (∀ w ∈ (vx_atS R_FM ic E fm_up).filter goodWord, w ∈ lw_tbl) ∧ (∀ w ∈ (vx_atS R_FM ic E fm_up).filter (fun w => !goodWord w), w ∈ fm_TW)
theorem fm_byPl {big ws : List Cond} (ps : List Nat) (hp : ws = ps.filterMap (fun i => big[i]?)) : ∀ w ∈ ws, w ∈ big := by
  intro w hw
  rw [hp] at hw
  obtain ⟨i, -, hi⟩ := List.mem_filterMap.mp hw
  exact List.mem_of_getElem? hi
theorem fm_EIA : fm_Eok fm_IA 54 58 := ⟨by decide +kernel, q_1_201, q_1_9, fm_byPl [30, 247, 256, 260, 263, 265, 248, 249, 45, 46, 250, 255, 261, 281, 237, 282, 239, 283, 241, 251, 253, 243, 277, 278, 280, 243, 268, 269, 270, 271, 271, 272, 273, 274, 274, 275, 276, 277, 267, 226, 234, 235, 236, 238, 240, 242, 246, 245, 244] (by decide +kernel), by decide +kernel⟩
theorem fm_EIS : fm_Eok fm_IS 193 197 := ⟨by decide +kernel, q_2_156, q_1_13, fm_byPl [30, 247, 256, 260, 263, 265, 248, 249, 45, 46, 250, 255, 261, 281, 237, 282, 239, 283, 241, 251, 253, 243, 277, 278, 280, 243, 431, 432, 433, 271, 271, 272, 273, 274, 274, 275, 276, 277, 430, 421, 423, 258, 424, 425, 426, 427, 246, 245, 428] (by decide +kernel), by decide +kernel⟩
theorem fm_EIO : fm_Eok fm_IO 114 118 := ⟨by decide +kernel, q_2_180, q_1_14, fm_byPl [30, 247, 256, 260, 263, 265, 248, 249, 45, 46, 250, 255, 261, 281, 237, 282, 239, 283, 241, 251, 253, 243, 277, 278, 280, 243, 455, 456, 457, 271, 271, 272, 273, 274, 274, 275, 276, 277, 454, 445, 447, 259, 448, 449, 450, 451, 246, 245, 452] (by decide +kernel), by decide +kernel⟩
section FMT
variable {p : Program} {l : Launch} {e : Env} {R : Room} {s : State} {m : MethodId} {args : Array Value} {below : List Frame} {meth : Method} {c : Code} {H : Heap} {locs : List Loc} {cells slots : Nat} {Q : State → Prop}
variable {D : va_G} {y : MethodName} {bytes cc : ByteArray} {maxL nL n index pc ci : Nat} {ret : Option FieldType} {rm : Room} {av : List Value} {ws : va_W} {tys : List (ClassId × FieldType)} {cd : Cond} {own : String} {ls : Array Slot} {rest st0 : List Value} {E : String}
/-- 'throw new E("text")' in a method that has changed nothing -/
theorem fm_thr {Qc : Array Value → State → Outcome → State → Prop} {ik is ic : Nat} {text : String} (S : CallFix p m c cc nL s args (cd :: fm_T) R_FM) (hl0 : l.stackTraces = false) (hTh : fm_TH s s.heap) (hE : fm_Eok E ik ic) (hq : (is, text) ∈ fm_Sx) (hout : ∀ x ∈ c.exceptionTable.toList, False) (hlocks : meth.locks = false) (hsz : ls.size = nL)
    (d0 : decode cc pc = .ok (.new ik, 3)) (d3 : decode cc (pc + 3) = .ok (.dup, 1)) (d4 : decode cc (pc + 4) = .ok (.ldc is, 2)) (d6 : decode cc (pc + 6) = .ok (.invokespecial ic, 3)) (d9 : decode cc (pc + 9) = .ok (.athrow, 1))
    (hR : (5 < R.frames ∧ 82 ≤ R.locals) ∧ 1 ≤ R.cells ∧ 6 ≤ R.slots) : W p l e R s m args below meth c s.heap [] 0 0 (vx_MQ below Qc (fm_XC E) args s 1 6 (fun _ => False)) (F0 m pc ls []) := by
  obtain ⟨hx, hb, hml, hown, hts⟩ := S
  obtain ⟨e1, e2, e3, e4, e5⟩ := hE
  obtain ⟨t1, t2, t3, t4⟩ := hTh
  obtain ⟨sa, hsa⟩ := t2 _ hq
  have ht : ∀ w ∈ fm_T, w.before args s = true := fun w h => hts w (List.mem_cons_of_mem _ h)
  have hon : ∀ w ∈ fm_TW, w.onTables = true := by decide
  have hat : ∀ w ∈ vx_atS R_FM ic E fm_up, w.before args s = true := vx_hat (B := fm_TW) (fun w hw => ht w (fm_inT (e4 w hw) (by simpa using (List.mem_filter.mp hw).2))) e5 (fun w hw => va_Nw.use (hon w hw) (t1 w hw))
  have hgd : ∀ w ∈ vx_atS R_FM ic E fm_up, vx_ot w = true := fun w hw => by
    by_cases g : goodWord w = true
    · simp [vx_ot, g]
    · have h5 := hon w (e5 w (List.mem_filter.mpr ⟨hw, by simpa using g⟩))
      simp [vx_ot, h5]
  exact vx_throwS (A := fun _ => False) (names := fm_up) (text := text) (ik := ik) (is := is) (ic := ic) (sa := sa) hx hb hl0 hown e1 (by decide +kernel) (ht _ e2) (ht _ e3) hsa hat (fun w hw => by
      rcases List.mem_cons.mp hw with h | h
      · rw [h]; rfl
      · rcases List.mem_cons.mp h with h | h
        · rw [h]; rfl
        · exact hgd w h) t3 t4 va_S.rf (hsz.trans hml.symm) d0 d3 d4 d6 d9 (fun x hx => (hout x hx).elim) (by simpa using hR.1.1) (by simpa using hR.1.2) (by simpa using hR.2.1) (by simpa using hR.2.2) hlocks
    (fun t _ h1 h2 => ⟨(), trivial, rfl, h1, fun q hq _ => h2 q hq⟩) (fun z hz => nomatch hz) (Nat.le_refl _) (Nat.le_refl _)
/-- a call of an object's method that throws: what is left is the throw over this frame -/
theorem fm_tv {b : Nat} {As : List Value} {fs : List Value} {T : u_T} {N : Nat} (S : CallFix p m c cc nL s args (cd :: fm_T) own) (hM : fm_MT l D y (.code y bytes maxL ret :: fm_T) rm (.ref b :: As) ws tys E) (hrc : rm.cells = 1) (hrs : rm.slots = 6)
    (ok : fm_Vok y bytes maxL ret n) (h1 : Cond.methodLink own index y ∈ fm_T) (hR : rm.frames + 1 ≤ R.frames ∧ 8 + (maxL + 11) + rm.locals ≤ R.locals) (hP : va_P D classes ws H) (hK : va_K D classes tys s) (hTh : fm_TH s H) (q0 : Nat) (he : ws[q0]? = some (b, .inr (ci, fs))) (hc : classes[ci]? = some (y.cls, T, N))
    (hn : As.length = n) (hsize : ls.size = nL) (hst : st0 = As.reverse ++ .ref b :: rest) (hW : (rest.map fun v => v.category).sum ≤ 8) (hf : cells + 1 ≤ R.cells ∧ slots + 6 ≤ R.slots) (hdg : decode cc pc = .ok (.invokevirtual index, 3))
    (k : ∀ (q9 : Addr) (ce : Cell) (H1 : Heap), H.size ≤ H1.size → (∀ q : Nat, q < H.size → H1[q]? = H[q]?) → H1[q9]? = some ce → ce.vm = .none → s.vm.findClass E = some ce.cls → vx_W p l e R s m args below meth c H1 locs (cells + 1) (slots + 6) Q (F0 m pc ls rest) q9) : W p l e R s m args below meth c H locs cells slots Q (F0 m pc ls st0) := by
  obtain ⟨k0, k1, k2, k3, k4⟩ := ok
  have hb : ∀ w ∈ fm_T, w ∈ cd :: fm_T := fun w h => List.mem_cons_of_mem _ h
  have hrun := vx_runV (p := p) (l := l) (e := e) (R := R) (s := s) (m := m) (args := args) (below := below) (meth := meth) (c := c) (H := H) (locs := locs) (cells := cells) (slots := slots) (C := y.cls) (g := F0 m pc ls st0) (rest := rest) S hM (cwV n S.2.2.2.2 (ws := .code y bytes maxL ret :: fm_T) (ws' := fm_T) (fm_good hb (fun w hw => by
    rcases List.mem_append.mp hw with h | h
    · simp only [List.mem_cons, List.not_mem_nil, or_false] at h
      rcases h with h | h | h | h
      · rw [h]; exact h1
      · rw [h]; exact k0
      · rw [h]; exact k1
      · rw [h]; exact k2
    · exact fm_allT k3 w h)) rfl hrc hrs ⟨rfl, k4⟩ hR) ⟨fm_blindT, va_recv hK hP hc he, fun U hU hWa => ⟨rfl, by rw [hU]; exact hP, va_K.moved hWa.alike hK, by rw [hU]; exact fm_TH.moved hWa hTh⟩⟩ rfl hn hsize hst (lv_room hW) hdg hf
  intro T hT X
  rcases hrun T hT X with ⟨v, st₀, t, T', L, h0, X', hL, e1, e2, hq, st⟩ | ⟨q, st₀, t, T', L, E', ce, h0, X', hL, e1, e2, ⟨u, -, hEe, hz, hk⟩, hce, hcv, hcl, st⟩
  · exact hq.elim
  · subst hEe
    rw [h0] at hz hk
    have hLn : L = [] := by
      cases L with
      | nil => rfl
      | cons z r => exact (hL z List.mem_cons_self).elim
    subst hLn
    rw [List.append_nil] at X'
    obtain ⟨t2, a1, b1⟩ := k q ce T'.heap (by rw [e1]; exact hz) (fun q hq => by rw [e1]; exact hk q hq (fun z => z)) (by rw [e1]; exact hce) hcv hcl T' rfl X'
    exact ⟨t2, st.trans a1, b1⟩
/-- .. and it goes on to this method's caller -/
theorem fm_tout {Qc : Array Value → State → Outcome → State → Prop} {q9 : Addr} {ce : Cell} {H1 : Heap} (hout : ∀ x ∈ c.exceptionTable.toList, False) (hlocks : meth.locks = false) (h1 : s.heap.size ≤ H1.size) (h2 : ∀ q : Nat, q < s.heap.size → H1[q]? = s.heap[q]?) (h3 : H1[q9]? = some ce) (h4 : ce.vm = .none) (h5 : s.vm.findClass E = some ce.cls) : vx_W p l e R s m args below meth c H1 [] 1 6 (vx_MQ below Qc (fm_XC E) args s 1 6 (fun _ => False)) (F0 m pc ls rest) q9 :=
  vx_out (fun x hx => (hout x hx).elim) hlocks h3 h4 h5 (fun t ht _ => ⟨(), trivial, rfl, by rw [ht]; exact h1, fun q hq _ => by rw [ht]; exact h2 q hq⟩) (fun z hz => nomatch hz) (Nat.le_refl _) (Nat.le_refl _)
end FMT
