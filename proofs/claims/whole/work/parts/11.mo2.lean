theorem c_MO_isThereN (l : Launch) (dC : Nat → ClassId) (dI : Nat → Nat → Nat) (fa : Nat) (cB : ClassId) (f : Nat → Int32) (n : Nat) (hn : n < 2 ^ 31) (hL : fm_Len (fm_RB f)) : fm_M l (dC, dI) y_MO_isThere w_MO_isThere ({ frames := 4, cells := 0, slots := 0, locals := 88 }) [.ref fa, .int (nI (n))] [(fa, .inl (cB, 8192, .inl (f)))] [(cB, .byte)] ((fm_bI (fm_th (fm_RB f) n))) := by
  rw [← fm_thI_n hn]
  exact c_MO_isThere l dC dI fa cB f (nI n) hL
theorem d_MO_tag_0 : decode b_MO_tag 0 = .ok (.aload_n 0, 1) := by decide +kernel
theorem d_MO_tag_1 : decode b_MO_tag 1 = .ok (.iconst 1, 1) := by decide +kernel
theorem d_MO_tag_2 : decode b_MO_tag 2 = .ok (.iload_n 1, 1) := by decide +kernel
theorem d_MO_tag_3 : decode b_MO_tag 3 = .ok (.aload_n 0, 1) := by decide +kernel
theorem d_MO_tag_4 : decode b_MO_tag 4 = .ok (.iconst 2, 1) := by decide +kernel
theorem d_MO_tag_5 : decode b_MO_tag 5 = .ok (.invokestatic 33, 3) := by decide +kernel
theorem d_MO_tag_8 : decode b_MO_tag 8 = .ok (.isub, 1) := by decide +kernel
theorem d_MO_tag_9 : decode b_MO_tag 9 = .ok (.iconst 2, 1) := by decide +kernel
theorem d_MO_tag_10 : decode b_MO_tag 10 = .ok (.invokestatic 43, 3) := by decide +kernel
theorem d_MO_tag_13 : decode b_MO_tag 13 = .ok (.iconst 4, 1) := by decide +kernel
theorem d_MO_tag_14 : decode b_MO_tag 14 = .ok (.irem, 1) := by decide +kernel
theorem d_MO_tag_15 : decode b_MO_tag 15 = .ok (.ireturn, 1) := by decide +kernel
set_option maxHeartbeats 4000000 in
set_option maxRecDepth 100000 in
theorem c_MO_tag (l : Launch) (dC : Nat → ClassId) (dI : Nat → Nat → Nat) (fa : Nat) (cB : ClassId) (f : Nat → Int32) (c : Nat) (hL : fm_Len (fm_RB f)) (h1 : fm_HF (fm_RB f) 2 ≤ c) (h2 : c ≤ fm_HF (fm_RB f) 3) : fm_M l (dC, dI) y_MO_tag w_MO_tag ({ frames := 4, cells := 0, slots := 0, locals := 88 }) [.ref fa, .int (nI (c))] [(fa, .inl (cB, 8192, .inl (f)))] [(cB, .byte)] (nI (fm_tag (fm_RB f) c)) := by
  refine Met.ofW (cc := b_MO_tag) (maxL := 2) (ret := (some .int)) (by decide) rfl ?_
  intro pg ev s m args below meth cd s₁ BD hml hv
  obtain ⟨rfl, hP, hK⟩ := hv
  have hx := BD.exec
  have hb := BD.bytes
  have hr := BD.returns
  have hts := atoms_spec (ws := w_MO_tag) BD.pre
  have ht : ∀ w ∈ fm_T, w.before _ s = true := fun w h => hts w (List.mem_cons_of_mem _ h)
  have hown : s.vm.findClass R_MO = some m.cls := findClass_of_methodNamed BD.named
  have hlocks := BD.notSynchronized
  have S : CallFix pg m cd b_MO_tag 2 s _ w_MO_tag R_MO := ⟨hx, hb, hml, hown, hts⟩
  have hl := lv_entry ([.ref fa, .int (nI (c))]) (n := 2) (Nat.le_of_ble_eq_true rfl)
  rw [lg_entry_eq]
  generalize (lg_sl ([.ref fa, .int (nI (c))]) ++ List.replicate (2 - (lg_sl ([.ref fa, .int (nI (c))])).length) Slot.unset).toArray = ls at hl ⊢
  have hl : lv_has ls 2 [(0, .ref fa), (1, .int (nI (c)))] := hl
  obtain ⟨-, hq, h3, h10⟩ := id hL
  have hci := fm_cin hL h1 h2
  refine lv_aload_n hx hb d_MO_tag_0 rfl (lv_at hl 0 rfl) ?_
  refine lv_iconst (v := nI (1)) hx hb d_MO_tag_1 (by decide) ?_
  refine lv_iload_n hx hb d_MO_tag_2 rfl (lv_at hl 1 rfl) ?_
  refine lv_aload_n hx hb d_MO_tag_3 rfl (lv_at hl 0 rfl) ?_
  refine lv_iconst (v := nI (2)) hx hb d_MO_tag_4 (by decide) ?_
  refine fm_cs S (c_MO_half l dC dI fa cB f 2 (by omega)) rfl rfl k_MO_half q_3_172 ⟨Nat.le_of_ble_eq_true rfl, Nat.le_of_ble_eq_true rfl⟩ (hP.sub [0] rfl) (hK.sub [0] rfl) rfl hl.1 rfl (Nat.le_of_ble_eq_true rfl) ⟨Nat.zero_le _, Nat.zero_le _⟩ d_MO_tag_5 ?_
  have f0_5 := fm_HF_lt (fm_RB_lt f) 2
  refine lv_isub hx hb d_MO_tag_8 ?_
  refine fm_tw (z := nI (c - (fm_HF (fm_RB f) 2))) (pk_sub (by omega)) ?_
  refine lv_iconst (v := nI (2)) hx hb d_MO_tag_9 (by decide) ?_
  refine fm_cs S (c_MO_at l dC dI fa cB f 1 (c - (fm_HF (fm_RB f) 2)) 2 (by omega) (hq) (by omega) (by omega)) rfl rfl k_MO_at q_3_184 ⟨Nat.le_of_ble_eq_true rfl, Nat.le_of_ble_eq_true rfl⟩ (hP.sub [0] rfl) (hK.sub [0] rfl) rfl hl.1 rfl (Nat.le_of_ble_eq_true rfl) ⟨Nat.zero_le _, Nat.zero_le _⟩ d_MO_tag_10 ?_
  have f0_10 := fm_AT_lt (fm_RB_lt f) 1 (c - (fm_HF (fm_RB f) 2)) 2
  refine lv_iconst (v := nI (4)) hx hb d_MO_tag_13 (by decide) ?_
  refine lv_irem hx hb d_MO_tag_14 (by decide) ?_
  refine fm_tw (z := nI ((fm_AT (fm_RB f) 1 (c - (fm_HF (fm_RB f) 2)) 2) % 4)) (pk_rem (by omega) (by omega) (by omega)) ?_
  exact W.iret hx hb hr (fun t ht hW => ⟨_, rfl, rfl, ht⟩) (fun q hq => by cases hq) d_MO_tag_15
theorem d_MO_rest_0 : decode b_MO_rest 0 = .ok (.aload_n 0, 1) := by decide +kernel
theorem d_MO_rest_1 : decode b_MO_rest 1 = .ok (.iconst 1, 1) := by decide +kernel
theorem d_MO_rest_2 : decode b_MO_rest 2 = .ok (.iload_n 1, 1) := by decide +kernel
theorem d_MO_rest_3 : decode b_MO_rest 3 = .ok (.aload_n 0, 1) := by decide +kernel
theorem d_MO_rest_4 : decode b_MO_rest 4 = .ok (.iconst 2, 1) := by decide +kernel
theorem d_MO_rest_5 : decode b_MO_rest 5 = .ok (.invokestatic 33, 3) := by decide +kernel
theorem d_MO_rest_8 : decode b_MO_rest 8 = .ok (.isub, 1) := by decide +kernel
theorem d_MO_rest_9 : decode b_MO_rest 9 = .ok (.iconst 3, 1) := by decide +kernel
theorem d_MO_rest_10 : decode b_MO_rest 10 = .ok (.invokestatic 43, 3) := by decide +kernel
theorem d_MO_rest_13 : decode b_MO_rest 13 = .ok (.ireturn, 1) := by decide +kernel
set_option maxHeartbeats 4000000 in
set_option maxRecDepth 100000 in
theorem c_MO_rest (l : Launch) (dC : Nat → ClassId) (dI : Nat → Nat → Nat) (fa : Nat) (cB : ClassId) (f : Nat → Int32) (c : Nat) (hL : fm_Len (fm_RB f)) (h1 : fm_HF (fm_RB f) 2 ≤ c) (h2 : c ≤ fm_HF (fm_RB f) 3) : fm_M l (dC, dI) y_MO_rest w_MO_rest ({ frames := 4, cells := 0, slots := 0, locals := 88 }) [.ref fa, .int (nI (c))] [(fa, .inl (cB, 8192, .inl (f)))] [(cB, .byte)] (nI (fm_rest (fm_RB f) c)) := by
  refine Met.ofW (cc := b_MO_rest) (maxL := 2) (ret := (some .int)) (by decide) rfl ?_
  intro pg ev s m args below meth cd s₁ BD hml hv
  obtain ⟨rfl, hP, hK⟩ := hv
  have hx := BD.exec
  have hb := BD.bytes
  have hr := BD.returns
  have hts := atoms_spec (ws := w_MO_rest) BD.pre
  have ht : ∀ w ∈ fm_T, w.before _ s = true := fun w h => hts w (List.mem_cons_of_mem _ h)
  have hown : s.vm.findClass R_MO = some m.cls := findClass_of_methodNamed BD.named
  have hlocks := BD.notSynchronized
  have S : CallFix pg m cd b_MO_rest 2 s _ w_MO_rest R_MO := ⟨hx, hb, hml, hown, hts⟩
  have hl := lv_entry ([.ref fa, .int (nI (c))]) (n := 2) (Nat.le_of_ble_eq_true rfl)
  rw [lg_entry_eq]
  generalize (lg_sl ([.ref fa, .int (nI (c))]) ++ List.replicate (2 - (lg_sl ([.ref fa, .int (nI (c))])).length) Slot.unset).toArray = ls at hl ⊢
  have hl : lv_has ls 2 [(0, .ref fa), (1, .int (nI (c)))] := hl
  obtain ⟨-, hq, h3, h10⟩ := id hL
  have hci := fm_cin hL h1 h2
  refine lv_aload_n hx hb d_MO_rest_0 rfl (lv_at hl 0 rfl) ?_
  refine lv_iconst (v := nI (1)) hx hb d_MO_rest_1 (by decide) ?_
  refine lv_iload_n hx hb d_MO_rest_2 rfl (lv_at hl 1 rfl) ?_
  refine lv_aload_n hx hb d_MO_rest_3 rfl (lv_at hl 0 rfl) ?_
  refine lv_iconst (v := nI (2)) hx hb d_MO_rest_4 (by decide) ?_
  refine fm_cs S (c_MO_half l dC dI fa cB f 2 (by omega)) rfl rfl k_MO_half q_3_172 ⟨Nat.le_of_ble_eq_true rfl, Nat.le_of_ble_eq_true rfl⟩ (hP.sub [0] rfl) (hK.sub [0] rfl) rfl hl.1 rfl (Nat.le_of_ble_eq_true rfl) ⟨Nat.zero_le _, Nat.zero_le _⟩ d_MO_rest_5 ?_
  have f0_5 := fm_HF_lt (fm_RB_lt f) 2
  refine lv_isub hx hb d_MO_rest_8 ?_
  refine fm_tw (z := nI (c - (fm_HF (fm_RB f) 2))) (pk_sub (by omega)) ?_
  refine lv_iconst (v := nI (3)) hx hb d_MO_rest_9 (by decide) ?_
  refine fm_cs S (c_MO_at l dC dI fa cB f 1 (c - (fm_HF (fm_RB f) 2)) 3 (by omega) (hq) (by omega) (by omega)) rfl rfl k_MO_at q_3_184 ⟨Nat.le_of_ble_eq_true rfl, Nat.le_of_ble_eq_true rfl⟩ (hP.sub [0] rfl) (hK.sub [0] rfl) rfl hl.1 rfl (Nat.le_of_ble_eq_true rfl) ⟨Nat.zero_le _, Nat.zero_le _⟩ d_MO_rest_10 ?_
  have f0_10 := fm_AT_lt (fm_RB_lt f) 1 (c - (fm_HF (fm_RB f) 2)) 3
  exact W.iret hx hb hr (fun t ht hW => ⟨_, rfl, rfl, ht⟩) (fun q hq => by cases hq) d_MO_rest_13
theorem d_MO_edgeOf_0 : decode b_MO_edgeOf 0 = .ok (.aload_n 0, 1) := by decide +kernel
theorem d_MO_edgeOf_1 : decode b_MO_edgeOf 1 = .ok (.bipush 6, 2) := by decide +kernel
theorem d_MO_edgeOf_3 : decode b_MO_edgeOf 3 = .ok (.invokestatic 37, 3) := by decide +kernel
theorem d_MO_edgeOf_6 : decode b_MO_edgeOf 6 = .ok (.ifCond .le 28, 3) := by decide +kernel
theorem d_MO_edgeOf_9 : decode b_MO_edgeOf 9 = .ok (.aload_n 0, 1) := by decide +kernel
theorem d_MO_edgeOf_10 : decode b_MO_edgeOf 10 = .ok (.bipush 6, 2) := by decide +kernel
theorem d_MO_edgeOf_12 : decode b_MO_edgeOf 12 = .ok (.iconst 0, 1) := by decide +kernel
theorem d_MO_edgeOf_13 : decode b_MO_edgeOf 13 = .ok (.iconst 0, 1) := by decide +kernel
theorem d_MO_edgeOf_14 : decode b_MO_edgeOf 14 = .ok (.invokestatic 43, 3) := by decide +kernel
theorem d_MO_edgeOf_17 : decode b_MO_edgeOf 17 = .ok (.sipush 255, 3) := by decide +kernel
theorem d_MO_edgeOf_20 : decode b_MO_edgeOf 20 = .ok (.if_icmp .ne 14, 3) := by decide +kernel
theorem d_MO_edgeOf_23 : decode b_MO_edgeOf 23 = .ok (.aload_n 0, 1) := by decide +kernel
theorem d_MO_edgeOf_24 : decode b_MO_edgeOf 24 = .ok (.bipush 6, 2) := by decide +kernel
theorem d_MO_edgeOf_26 : decode b_MO_edgeOf 26 = .ok (.iconst 0, 1) := by decide +kernel
theorem d_MO_edgeOf_27 : decode b_MO_edgeOf 27 = .ok (.iconst 1, 1) := by decide +kernel
theorem d_MO_edgeOf_28 : decode b_MO_edgeOf 28 = .ok (.invokestatic 43, 3) := by decide +kernel
theorem d_MO_edgeOf_31 : decode b_MO_edgeOf 31 = .ok (.goto 4, 3) := by decide +kernel
theorem d_MO_edgeOf_34 : decode b_MO_edgeOf 34 = .ok (.iconst (-1), 1) := by decide +kernel
theorem d_MO_edgeOf_35 : decode b_MO_edgeOf 35 = .ok (.ireturn, 1) := by decide +kernel
set_option maxHeartbeats 4000000 in
set_option maxRecDepth 100000 in
theorem c_MO_edgeOf (l : Launch) (dC : Nat → ClassId) (dI : Nat → Nat → Nat) (fa : Nat) (cB : ClassId) (f : Nat → Int32) (hL : fm_Len (fm_RB f)) : fm_M l (dC, dI) y_MO_edgeOf w_MO_edgeOf ({ frames := 4, cells := 0, slots := 0, locals := 88 }) [.ref fa] [(fa, .inl (cB, 8192, .inl (f)))] [(cB, .byte)] ((fm_eg (fm_RB f))) := by
  refine Met.ofW (cc := b_MO_edgeOf) (maxL := 1) (ret := (some .int)) (by decide) rfl ?_
  intro pg ev s m args below meth cd s₁ BD hml hv
  obtain ⟨rfl, hP, hK⟩ := hv
  have hx := BD.exec
  have hb := BD.bytes
  have hr := BD.returns
  have hts := atoms_spec (ws := w_MO_edgeOf) BD.pre
  have ht : ∀ w ∈ fm_T, w.before _ s = true := fun w h => hts w (List.mem_cons_of_mem _ h)
  have hown : s.vm.findClass R_MO = some m.cls := findClass_of_methodNamed BD.named
  have hlocks := BD.notSynchronized
  have S : CallFix pg m cd b_MO_edgeOf 1 s _ w_MO_edgeOf R_MO := ⟨hx, hb, hml, hown, hts⟩
  have hl := lv_entry ([.ref fa]) (n := 1) (Nat.le_of_ble_eq_true rfl)
  rw [lg_entry_eq]
  generalize (lg_sl ([.ref fa]) ++ List.replicate (1 - (lg_sl ([.ref fa])).length) Slot.unset).toArray = ls at hl ⊢
  have hl : lv_has ls 1 [(0, .ref fa)] := hl
  obtain ⟨-, hq, h3, h10⟩ := id hL
  refine lv_aload_n hx hb d_MO_edgeOf_0 rfl (lv_at hl 0 rfl) ?_
  refine lv_bipush (v := nI (6)) hx hb d_MO_edgeOf_1 (by decide) ?_
  refine fm_cs S (c_MO_words l dC dI fa cB f 6 (by omega) (fun _ => hq)) rfl rfl k_MO_words q_3_175 ⟨Nat.le_of_ble_eq_true rfl, Nat.le_of_ble_eq_true rfl⟩ (hP.sub [0] rfl) (hK.sub [0] rfl) rfl hl.1 rfl (Nat.le_of_ble_eq_true rfl) ⟨Nat.zero_le _, Nat.zero_le _⟩ d_MO_edgeOf_3 ?_
  have f0_3 := fm_WD_le (fm_RB_lt f) 6
  refine lv_if_le (tgt := 34) hx hb d_MO_edgeOf_6 (by decide) (fun c0 => ?_) (fun c0 => ?_)
  · have c_6 : fm_WD (fm_RB f) 6 ≤ 0 := (nI_leI (a := fm_WD (fm_RB f) 6) (b := 0) (by omega) (by omega)).mp c0
    refine lv_iconst (v := ((-1))) hx hb d_MO_edgeOf_34 (by decide) ?_
    exact W.iret hx hb hr (fun t ht hW => ⟨_, rfl, by first | (rw [fm_eg, if_neg (fun z => c_20 z.2)]; done) | (rw [fm_eg, if_neg (fun z => by omega)]; done), ht⟩) (fun q hq => by cases hq) d_MO_edgeOf_35
  · have c_6 : ¬ (fm_WD (fm_RB f) 6 ≤ 0) := fun z => c0 ((nI_leI (a := fm_WD (fm_RB f) 6) (b := 0) (by omega) (by omega)).mpr z)
    have hin := fm_pin hL (p := 6) (k := 0) (by decide) (by omega)
    refine lv_aload_n hx hb d_MO_edgeOf_9 rfl (lv_at hl 0 rfl) ?_
    refine lv_bipush (v := nI (6)) hx hb d_MO_edgeOf_10 (by decide) ?_
    refine lv_iconst (v := nI (0)) hx hb d_MO_edgeOf_12 (by decide) ?_
    refine lv_iconst (v := nI (0)) hx hb d_MO_edgeOf_13 (by decide) ?_
    refine fm_cs S (c_MO_at l dC dI fa cB f 6 0 0 (by omega) (hq) (by omega) (by omega)) rfl rfl k_MO_at q_3_184 ⟨Nat.le_of_ble_eq_true rfl, Nat.le_of_ble_eq_true rfl⟩ (hP.sub [0] rfl) (hK.sub [0] rfl) rfl hl.1 rfl (Nat.le_of_ble_eq_true rfl) ⟨Nat.zero_le _, Nat.zero_le _⟩ d_MO_edgeOf_14 ?_
    have f0_14 := fm_AT_lt (fm_RB_lt f) 6 0 0
    refine lv_sipush (v := nI (255)) hx hb d_MO_edgeOf_17 (by decide) ?_
    refine lv_icmp_ne (tgt := 34) hx hb d_MO_edgeOf_20 (by decide) (fun c0 => ?_) (fun c0 => ?_)
    · have c_20 : ¬ (fm_AT (fm_RB f) 6 0 0 = 255) := fun z => c0 ((nI_eq (a := fm_AT (fm_RB f) 6 0 0) (b := 255) (by omega) (by omega)).mpr z)
      refine lv_iconst (v := ((-1))) hx hb d_MO_edgeOf_34 (by decide) ?_
      exact W.iret hx hb hr (fun t ht hW => ⟨_, rfl, by first | (rw [fm_eg, if_neg (fun z => c_20 z.2)]; done) | (rw [fm_eg, if_neg (fun z => by omega)]; done), ht⟩) (fun q hq => by cases hq) d_MO_edgeOf_35
    · have c_20 : fm_AT (fm_RB f) 6 0 0 = 255 := (nI_eq (a := fm_AT (fm_RB f) 6 0 0) (b := 255) (by omega) (by omega)).mp c0
      refine lv_aload_n hx hb d_MO_edgeOf_23 rfl (lv_at hl 0 rfl) ?_
      refine lv_bipush (v := nI (6)) hx hb d_MO_edgeOf_24 (by decide) ?_
      refine lv_iconst (v := nI (0)) hx hb d_MO_edgeOf_26 (by decide) ?_
      refine lv_iconst (v := nI (1)) hx hb d_MO_edgeOf_27 (by decide) ?_
      refine fm_cs S (c_MO_at l dC dI fa cB f 6 0 1 (by omega) (hq) (by omega) (by omega)) rfl rfl k_MO_at q_3_184 ⟨Nat.le_of_ble_eq_true rfl, Nat.le_of_ble_eq_true rfl⟩ (hP.sub [0] rfl) (hK.sub [0] rfl) rfl hl.1 rfl (Nat.le_of_ble_eq_true rfl) ⟨Nat.zero_le _, Nat.zero_le _⟩ d_MO_edgeOf_28 ?_
      have f0_28 := fm_AT_lt (fm_RB_lt f) 6 0 1
      refine lv_goto (tgt := 35) hx hb d_MO_edgeOf_31 (by decide) ?_
      exact W.iret hx hb hr (fun t ht hW => ⟨_, rfl, by rw [fm_eg, if_pos ⟨by omega, c_20⟩], ht⟩) (fun q hq => by cases hq) d_MO_edgeOf_35
theorem d_MO_edgeProgram_0 : decode b_MO_edgeProgram 0 = .ok (.aload_n 0, 1) := by decide +kernel
theorem d_MO_edgeProgram_1 : decode b_MO_edgeProgram 1 = .ok (.bipush 6, 2) := by decide +kernel
theorem d_MO_edgeProgram_3 : decode b_MO_edgeProgram 3 = .ok (.invokestatic 37, 3) := by decide +kernel
theorem d_MO_edgeProgram_6 : decode b_MO_edgeProgram 6 = .ok (.istore_n 1, 1) := by decide +kernel
theorem d_MO_edgeProgram_7 : decode b_MO_edgeProgram 7 = .ok (.iload_n 1, 1) := by decide +kernel
theorem d_MO_edgeProgram_8 : decode b_MO_edgeProgram 8 = .ok (.ifCond .le 29, 3) := by decide +kernel
theorem d_MO_edgeProgram_11 : decode b_MO_edgeProgram 11 = .ok (.aload_n 0, 1) := by decide +kernel
theorem d_MO_edgeProgram_12 : decode b_MO_edgeProgram 12 = .ok (.bipush 6, 2) := by decide +kernel
theorem d_MO_edgeProgram_14 : decode b_MO_edgeProgram 14 = .ok (.iload_n 1, 1) := by decide +kernel
theorem d_MO_edgeProgram_15 : decode b_MO_edgeProgram 15 = .ok (.iconst 1, 1) := by decide +kernel
theorem d_MO_edgeProgram_16 : decode b_MO_edgeProgram 16 = .ok (.isub, 1) := by decide +kernel
theorem d_MO_edgeProgram_17 : decode b_MO_edgeProgram 17 = .ok (.iconst 0, 1) := by decide +kernel
theorem d_MO_edgeProgram_18 : decode b_MO_edgeProgram 18 = .ok (.invokestatic 43, 3) := by decide +kernel
theorem d_MO_edgeProgram_21 : decode b_MO_edgeProgram 21 = .ok (.sipush 255, 3) := by decide +kernel
theorem d_MO_edgeProgram_24 : decode b_MO_edgeProgram 24 = .ok (.if_icmp .ne 13, 3) := by decide +kernel
theorem d_MO_edgeProgram_27 : decode b_MO_edgeProgram 27 = .ok (.aload_n 0, 1) := by decide +kernel
theorem d_MO_edgeProgram_28 : decode b_MO_edgeProgram 28 = .ok (.iload_n 1, 1) := by decide +kernel
theorem d_MO_edgeProgram_29 : decode b_MO_edgeProgram 29 = .ok (.iconst 1, 1) := by decide +kernel
theorem d_MO_edgeProgram_30 : decode b_MO_edgeProgram 30 = .ok (.isub, 1) := by decide +kernel
theorem d_MO_edgeProgram_31 : decode b_MO_edgeProgram 31 = .ok (.invokestatic 47, 3) := by decide +kernel
theorem d_MO_edgeProgram_34 : decode b_MO_edgeProgram 34 = .ok (.goto 4, 3) := by decide +kernel
theorem d_MO_edgeProgram_37 : decode b_MO_edgeProgram 37 = .ok (.iconst (-1), 1) := by decide +kernel
theorem d_MO_edgeProgram_38 : decode b_MO_edgeProgram 38 = .ok (.ireturn, 1) := by decide +kernel
set_option maxHeartbeats 4000000 in
set_option maxRecDepth 100000 in
theorem c_MO_edgeProgram (l : Launch) (dC : Nat → ClassId) (dI : Nat → Nat → Nat) (fa : Nat) (cB : ClassId) (f : Nat → Int32) (hL : fm_Len (fm_RB f)) : fm_M l (dC, dI) y_MO_edgeProgram w_MO_edgeProgram ({ frames := 5, cells := 0, slots := 0, locals := 109 }) [.ref fa] [(fa, .inl (cB, 8192, .inl (f)))] [(cB, .byte)] ((fm_ep (fm_RB f))) := by
  refine Met.ofW (cc := b_MO_edgeProgram) (maxL := 2) (ret := (some .int)) (by decide) rfl ?_
  intro pg ev s m args below meth cd s₁ BD hml hv
  obtain ⟨rfl, hP, hK⟩ := hv
  have hx := BD.exec
  have hb := BD.bytes
  have hr := BD.returns
  have hts := atoms_spec (ws := w_MO_edgeProgram) BD.pre
  have ht : ∀ w ∈ fm_T, w.before _ s = true := fun w h => hts w (List.mem_cons_of_mem _ h)
  have hown : s.vm.findClass R_MO = some m.cls := findClass_of_methodNamed BD.named
  have hlocks := BD.notSynchronized
  have S : CallFix pg m cd b_MO_edgeProgram 2 s _ w_MO_edgeProgram R_MO := ⟨hx, hb, hml, hown, hts⟩
  have hl := lv_entry ([.ref fa]) (n := 2) (Nat.le_of_ble_eq_true rfl)
  rw [lg_entry_eq]
  generalize (lg_sl ([.ref fa]) ++ List.replicate (2 - (lg_sl ([.ref fa])).length) Slot.unset).toArray = ls at hl ⊢
  have hl : lv_has ls 2 [(0, .ref fa)] := hl
  obtain ⟨-, hq, h3, h10⟩ := id hL
  refine lv_aload_n hx hb d_MO_edgeProgram_0 rfl (lv_at hl 0 rfl) ?_
  refine lv_bipush (v := nI (6)) hx hb d_MO_edgeProgram_1 (by decide) ?_
  refine fm_cs S (c_MO_words l dC dI fa cB f 6 (by omega) (fun _ => hq)) rfl rfl k_MO_words q_3_175 ⟨Nat.le_of_ble_eq_true rfl, Nat.le_of_ble_eq_true rfl⟩ (hP.sub [0] rfl) (hK.sub [0] rfl) rfl hl.1 rfl (Nat.le_of_ble_eq_true rfl) ⟨Nat.zero_le _, Nat.zero_le _⟩ d_MO_edgeProgram_3 ?_
  have f0_3 := fm_WD_le (fm_RB_lt f) 6
  refine lv_istore_n (lv' := [(1, .int (nI (fm_WD (fm_RB f) 6))), (0, .ref fa)]) hx hb d_MO_edgeProgram_6 rfl hl (by decide) rfl (fun ls hl => ?_)
  refine lv_iload_n hx hb d_MO_edgeProgram_7 rfl (lv_at hl 0 rfl) ?_
  refine lv_if_le (tgt := 37) hx hb d_MO_edgeProgram_8 (by decide) (fun c0 => ?_) (fun c0 => ?_)
  · have c_8 : fm_WD (fm_RB f) 6 ≤ 0 := (nI_leI (a := fm_WD (fm_RB f) 6) (b := 0) (by omega) (by omega)).mp c0
    refine lv_iconst (v := ((-1))) hx hb d_MO_edgeProgram_37 (by decide) ?_
    exact W.iret hx hb hr (fun t ht hW => ⟨_, rfl, by first | (rw [fm_ep, if_neg (fun z => c_24 z.2)]; done) | (rw [fm_ep, if_neg (fun z => by omega)]; done), ht⟩) (fun q hq => by cases hq) d_MO_edgeProgram_38
  · have c_8 : ¬ (fm_WD (fm_RB f) 6 ≤ 0) := fun z => c0 ((nI_leI (a := fm_WD (fm_RB f) 6) (b := 0) (by omega) (by omega)).mpr z)
    have hin := fm_pin hL (p := 6) (k := fm_WD (fm_RB f) 6 - 1) (by decide) (by omega)
    refine lv_aload_n hx hb d_MO_edgeProgram_11 rfl (lv_at hl 1 rfl) ?_
    refine lv_bipush (v := nI (6)) hx hb d_MO_edgeProgram_12 (by decide) ?_
    refine lv_iload_n hx hb d_MO_edgeProgram_14 rfl (lv_at hl 0 rfl) ?_
    refine lv_iconst (v := nI (1)) hx hb d_MO_edgeProgram_15 (by decide) ?_
    refine lv_isub hx hb d_MO_edgeProgram_16 ?_
    refine fm_tw (z := nI (fm_WD (fm_RB f) 6 - 1)) (pk_sub (by omega)) ?_
    refine lv_iconst (v := nI (0)) hx hb d_MO_edgeProgram_17 (by decide) ?_
    refine fm_cs S (c_MO_at l dC dI fa cB f 6 (fm_WD (fm_RB f) 6 - 1) 0 (by omega) (hq) (by omega) (by omega)) rfl rfl k_MO_at q_3_184 ⟨Nat.le_of_ble_eq_true rfl, Nat.le_of_ble_eq_true rfl⟩ (hP.sub [0] rfl) (hK.sub [0] rfl) rfl hl.1 rfl (Nat.le_of_ble_eq_true rfl) ⟨Nat.zero_le _, Nat.zero_le _⟩ d_MO_edgeProgram_18 ?_
    have f0_18 := fm_AT_lt (fm_RB_lt f) 6 (fm_WD (fm_RB f) 6 - 1) 0
    refine lv_sipush (v := nI (255)) hx hb d_MO_edgeProgram_21 (by decide) ?_
    refine lv_icmp_ne (tgt := 37) hx hb d_MO_edgeProgram_24 (by decide) (fun c0 => ?_) (fun c0 => ?_)
    · have c_24 : ¬ (fm_AT (fm_RB f) 6 (fm_WD (fm_RB f) 6 - 1) 0 = 255) := fun z => c0 ((nI_eq (a := fm_AT (fm_RB f) 6 (fm_WD (fm_RB f) 6 - 1) 0) (b := 255) (by omega) (by omega)).mpr z)
      refine lv_iconst (v := ((-1))) hx hb d_MO_edgeProgram_37 (by decide) ?_
      exact W.iret hx hb hr (fun t ht hW => ⟨_, rfl, by first | (rw [fm_ep, if_neg (fun z => c_24 z.2)]; done) | (rw [fm_ep, if_neg (fun z => by omega)]; done), ht⟩) (fun q hq => by cases hq) d_MO_edgeProgram_38
    · have c_24 : fm_AT (fm_RB f) 6 (fm_WD (fm_RB f) 6 - 1) 0 = 255 := (nI_eq (a := fm_AT (fm_RB f) 6 (fm_WD (fm_RB f) 6 - 1) 0) (b := 255) (by omega) (by omega)).mp c0
      refine lv_aload_n hx hb d_MO_edgeProgram_27 rfl (lv_at hl 1 rfl) ?_
      refine lv_iload_n hx hb d_MO_edgeProgram_28 rfl (lv_at hl 0 rfl) ?_
      refine lv_iconst (v := nI (1)) hx hb d_MO_edgeProgram_29 (by decide) ?_
      refine lv_isub hx hb d_MO_edgeProgram_30 ?_
      refine fm_tw (z := nI (fm_WD (fm_RB f) 6 - 1)) (pk_sub (by omega)) ?_
      refine fm_cs S (c_MO_far l dC dI fa cB f (fm_WD (fm_RB f) 6 - 1) (hq) (by omega)) rfl rfl k_MO_far q_3_218 ⟨Nat.le_of_ble_eq_true rfl, Nat.le_of_ble_eq_true rfl⟩ (hP.sub [0] rfl) (hK.sub [0] rfl) rfl hl.1 rfl (Nat.le_of_ble_eq_true rfl) ⟨Nat.zero_le _, Nat.zero_le _⟩ d_MO_edgeProgram_31 ?_
      have f0_31 := fm_FAR_lt (fm_RB_lt f) (fm_WD (fm_RB f) 6 - 1)
      refine lv_goto (tgt := 38) hx hb d_MO_edgeProgram_34 (by decide) ?_
      exact W.iret hx hb hr (fun t ht hW => ⟨_, rfl, by rw [fm_ep, if_pos ⟨by omega, c_24⟩], ht⟩) (fun q hq => by cases hq) d_MO_edgeProgram_38
theorem d_MO_areSizesRight_0 : decode b_MO_areSizesRight 0 = .ok (.iconst 1, 1) := by decide +kernel
theorem d_MO_areSizesRight_1 : decode b_MO_areSizesRight 1 = .ok (.istore_n 1, 1) := by decide +kernel
theorem d_MO_areSizesRight_2 : decode b_MO_areSizesRight 2 = .ok (.iconst 0, 1) := by decide +kernel
theorem d_MO_areSizesRight_3 : decode b_MO_areSizesRight 3 = .ok (.istore_n 2, 1) := by decide +kernel
theorem d_MO_areSizesRight_4 : decode b_MO_areSizesRight 4 = .ok (.iload_n 2, 1) := by decide +kernel
theorem d_MO_areSizesRight_5 : decode b_MO_areSizesRight 5 = .ok (.aload_n 0, 1) := by decide +kernel
theorem d_MO_areSizesRight_6 : decode b_MO_areSizesRight 6 = .ok (.iconst 1, 1) := by decide +kernel
theorem d_MO_areSizesRight_7 : decode b_MO_areSizesRight 7 = .ok (.invokestatic 37, 3) := by decide +kernel
theorem d_MO_areSizesRight_10 : decode b_MO_areSizesRight 10 = .ok (.if_icmp .ge 87, 3) := by decide +kernel
theorem d_MO_areSizesRight_13 : decode b_MO_areSizesRight 13 = .ok (.iload_n 1, 1) := by decide +kernel
theorem d_MO_areSizesRight_14 : decode b_MO_areSizesRight 14 = .ok (.ifCond .eq 75, 3) := by decide +kernel
theorem d_MO_areSizesRight_17 : decode b_MO_areSizesRight 17 = .ok (.aload_n 0, 1) := by decide +kernel
theorem d_MO_areSizesRight_18 : decode b_MO_areSizesRight 18 = .ok (.iconst 1, 1) := by decide +kernel
theorem d_MO_areSizesRight_19 : decode b_MO_areSizesRight 19 = .ok (.iload_n 2, 1) := by decide +kernel
theorem d_MO_areSizesRight_20 : decode b_MO_areSizesRight 20 = .ok (.iconst 0, 1) := by decide +kernel
theorem d_MO_areSizesRight_21 : decode b_MO_areSizesRight 21 = .ok (.invokestatic 43, 3) := by decide +kernel
theorem d_MO_areSizesRight_24 : decode b_MO_areSizesRight 24 = .ok (.aload_n 0, 1) := by decide +kernel
theorem d_MO_areSizesRight_25 : decode b_MO_areSizesRight 25 = .ok (.iconst 2, 1) := by decide +kernel
theorem d_MO_areSizesRight_26 : decode b_MO_areSizesRight 26 = .ok (.invokestatic 37, 3) := by decide +kernel
theorem d_MO_areSizesRight_29 : decode b_MO_areSizesRight 29 = .ok (.if_icmp .ge 60, 3) := by decide +kernel
theorem d_MO_areSizesRight_32 : decode b_MO_areSizesRight 32 = .ok (.aload_n 0, 1) := by decide +kernel
theorem d_MO_areSizesRight_33 : decode b_MO_areSizesRight 33 = .ok (.iconst 1, 1) := by decide +kernel
theorem d_MO_areSizesRight_34 : decode b_MO_areSizesRight 34 = .ok (.iload_n 2, 1) := by decide +kernel
theorem d_MO_areSizesRight_35 : decode b_MO_areSizesRight 35 = .ok (.iconst 1, 1) := by decide +kernel
theorem d_MO_areSizesRight_36 : decode b_MO_areSizesRight 36 = .ok (.invokestatic 43, 3) := by decide +kernel
theorem d_MO_areSizesRight_39 : decode b_MO_areSizesRight 39 = .ok (.bipush 16, 2) := by decide +kernel
theorem d_MO_areSizesRight_41 : decode b_MO_areSizesRight 41 = .ok (.idiv, 1) := by decide +kernel
theorem d_MO_areSizesRight_42 : decode b_MO_areSizesRight 42 = .ok (.aload_n 0, 1) := by decide +kernel
theorem d_MO_areSizesRight_43 : decode b_MO_areSizesRight 43 = .ok (.iconst 3, 1) := by decide +kernel
theorem d_MO_areSizesRight_44 : decode b_MO_areSizesRight 44 = .ok (.invokestatic 37, 3) := by decide +kernel
theorem d_MO_areSizesRight_47 : decode b_MO_areSizesRight 47 = .ok (.if_icmp .ge 42, 3) := by decide +kernel
theorem d_MO_areSizesRight_50 : decode b_MO_areSizesRight 50 = .ok (.aload_n 0, 1) := by decide +kernel
theorem d_MO_areSizesRight_51 : decode b_MO_areSizesRight 51 = .ok (.iconst 1, 1) := by decide +kernel
theorem d_MO_areSizesRight_52 : decode b_MO_areSizesRight 52 = .ok (.iload_n 2, 1) := by decide +kernel
theorem d_MO_areSizesRight_53 : decode b_MO_areSizesRight 53 = .ok (.iconst 1, 1) := by decide +kernel
theorem d_MO_areSizesRight_54 : decode b_MO_areSizesRight 54 = .ok (.invokestatic 43, 3) := by decide +kernel
theorem d_MO_areSizesRight_57 : decode b_MO_areSizesRight 57 = .ok (.bipush 16, 2) := by decide +kernel
theorem d_MO_areSizesRight_59 : decode b_MO_areSizesRight 59 = .ok (.irem, 1) := by decide +kernel
theorem d_MO_areSizesRight_60 : decode b_MO_areSizesRight 60 = .ok (.aload_n 0, 1) := by decide +kernel
theorem d_MO_areSizesRight_61 : decode b_MO_areSizesRight 61 = .ok (.iconst 4, 1) := by decide +kernel
theorem d_MO_areSizesRight_62 : decode b_MO_areSizesRight 62 = .ok (.invokestatic 37, 3) := by decide +kernel
theorem d_MO_areSizesRight_65 : decode b_MO_areSizesRight 65 = .ok (.if_icmp .ge 24, 3) := by decide +kernel
theorem d_MO_areSizesRight_68 : decode b_MO_areSizesRight 68 = .ok (.aload_n 0, 1) := by decide +kernel
theorem d_MO_areSizesRight_69 : decode b_MO_areSizesRight 69 = .ok (.iconst 1, 1) := by decide +kernel
theorem d_MO_areSizesRight_70 : decode b_MO_areSizesRight 70 = .ok (.iload_n 2, 1) := by decide +kernel
theorem d_MO_areSizesRight_71 : decode b_MO_areSizesRight 71 = .ok (.iconst 2, 1) := by decide +kernel
theorem d_MO_areSizesRight_72 : decode b_MO_areSizesRight 72 = .ok (.invokestatic 43, 3) := by decide +kernel
theorem d_MO_areSizesRight_75 : decode b_MO_areSizesRight 75 = .ok (.iconst 4, 1) := by decide +kernel
theorem d_MO_areSizesRight_76 : decode b_MO_areSizesRight 76 = .ok (.idiv, 1) := by decide +kernel
theorem d_MO_areSizesRight_77 : decode b_MO_areSizesRight 77 = .ok (.aload_n 0, 1) := by decide +kernel
theorem d_MO_areSizesRight_78 : decode b_MO_areSizesRight 78 = .ok (.iconst 5, 1) := by decide +kernel
theorem d_MO_areSizesRight_79 : decode b_MO_areSizesRight 79 = .ok (.invokestatic 37, 3) := by decide +kernel
theorem d_MO_areSizesRight_82 : decode b_MO_areSizesRight 82 = .ok (.if_icmp .ge 7, 3) := by decide +kernel
theorem d_MO_areSizesRight_85 : decode b_MO_areSizesRight 85 = .ok (.iconst 1, 1) := by decide +kernel
theorem d_MO_areSizesRight_86 : decode b_MO_areSizesRight 86 = .ok (.goto 4, 3) := by decide +kernel
theorem d_MO_areSizesRight_89 : decode b_MO_areSizesRight 89 = .ok (.iconst 0, 1) := by decide +kernel
theorem d_MO_areSizesRight_90 : decode b_MO_areSizesRight 90 = .ok (.istore_n 1, 1) := by decide +kernel
theorem d_MO_areSizesRight_91 : decode b_MO_areSizesRight 91 = .ok (.iinc 2 1, 3) := by decide +kernel
theorem d_MO_areSizesRight_94 : decode b_MO_areSizesRight 94 = .ok (.goto (-90), 3) := by decide +kernel
theorem d_MO_areSizesRight_97 : decode b_MO_areSizesRight 97 = .ok (.iload_n 1, 1) := by decide +kernel
theorem d_MO_areSizesRight_98 : decode b_MO_areSizesRight 98 = .ok (.ireturn, 1) := by decide +kernel
set_option maxHeartbeats 4000000 in
set_option maxRecDepth 100000 in
theorem c_MO_areSizesRight (l : Launch) (dC : Nat → ClassId) (dI : Nat → Nat → Nat) (fa : Nat) (cB : ClassId) (f : Nat → Int32) (hL : fm_Len (fm_RB f)) : fm_M l (dC, dI) y_MO_areSizesRight w_MO_areSizesRight ({ frames := 4, cells := 0, slots := 0, locals := 88 }) [.ref fa] [(fa, .inl (cB, 8192, .inl (f)))] [(cB, .byte)] ((fm_bI (fm_all (fm_WD (fm_RB f) 1) (fm_size1 (fm_RB f))))) := by
  refine Met.ofW (cc := b_MO_areSizesRight) (maxL := 3) (ret := (some .boolean)) (by decide) rfl ?_
  intro pg ev s m args below meth cd s₁ BD hml hv
  obtain ⟨rfl, hP, hK⟩ := hv
  have hx := BD.exec
  have hb := BD.bytes
  have hr := BD.returns
  have hts := atoms_spec (ws := w_MO_areSizesRight) BD.pre
  have ht : ∀ w ∈ fm_T, w.before _ s = true := fun w h => hts w (List.mem_cons_of_mem _ h)
  have hown : s.vm.findClass R_MO = some m.cls := findClass_of_methodNamed BD.named
  have hlocks := BD.notSynchronized
  have S : CallFix pg m cd b_MO_areSizesRight 3 s _ w_MO_areSizesRight R_MO := ⟨hx, hb, hml, hown, hts⟩
  have hl := lv_entry ([.ref fa]) (n := 3) (Nat.le_of_ble_eq_true rfl)
  rw [lg_entry_eq]
  generalize (lg_sl ([.ref fa]) ++ List.replicate (3 - (lg_sl ([.ref fa])).length) Slot.unset).toArray = ls at hl ⊢
  have hl : lv_has ls 3 [(0, .ref fa)] := hl
  obtain ⟨-, hq, h3, h10⟩ := id hL
  refine lv_iconst (v := nI (1)) hx hb d_MO_areSizesRight_0 (by decide) ?_
  refine lv_istore_n (lv' := [(1, .int (nI (1))), (0, .ref fa)]) hx hb d_MO_areSizesRight_1 rfl hl (by decide) rfl (fun ls hl => ?_)
  refine lv_iconst (v := nI (0)) hx hb d_MO_areSizesRight_2 (by decide) ?_
  refine lv_istore_n (lv' := [(2, .int (nI (0))), (1, .int (nI (1))), (0, .ref fa)]) hx hb d_MO_areSizesRight_3 rfl hl (by decide) rfl (fun ls hl => ?_)
  refine fm_loop1 (LV := fun (i : Nat) => [(0, .ref fa), (1, .int (fm_bI (fm_all (i) (fm_size1 (fm_RB f))))), (2, .int (nI (i)))]) (I := fun (i : Nat) => i ≤ fm_WD (fm_RB f) 1) (μ := fun (i : Nat) => fm_WD (fm_RB f) 1 - i) ?_ 0 (Nat.zero_le _) ls (lv_sub hl [2, 1, 0] rfl)
  intro i hI_4 ih_4 ls hl
  have hl : lv_has ls 3 [(0, .ref fa), (1, .int (fm_bI (fm_all (i) (fm_size1 (fm_RB f))))), (2, .int (nI (i)))] := hl
  refine lv_iload_n hx hb d_MO_areSizesRight_4 rfl (lv_at hl 2 rfl) ?_
  refine lv_aload_n hx hb d_MO_areSizesRight_5 rfl (lv_at hl 0 rfl) ?_
  refine lv_iconst (v := nI (1)) hx hb d_MO_areSizesRight_6 (by decide) ?_
  refine fm_cs S (c_MO_words l dC dI fa cB f 1 (by omega) (fun _ => hq)) rfl rfl k_MO_words q_3_175 ⟨Nat.le_of_ble_eq_true rfl, Nat.le_of_ble_eq_true rfl⟩ (hP.sub [0] rfl) (hK.sub [0] rfl) rfl hl.1 rfl (Nat.le_of_ble_eq_true rfl) ⟨Nat.zero_le _, Nat.zero_le _⟩ d_MO_areSizesRight_7 ?_
  have f0_7 := fm_WD_le (fm_RB_lt f) 1
  refine lv_icmp_ge (tgt := 97) hx hb d_MO_areSizesRight_10 (by decide) (fun c0 => ?_) (fun c0 => ?_)
  · have c_10 : fm_WD (fm_RB f) 1 ≤ i := (nI_leI (a := fm_WD (fm_RB f) 1) (b := i) (by omega) (by omega)).mp c0
    refine lv_iload_n hx hb d_MO_areSizesRight_97 rfl (lv_at hl 1 rfl) ?_
    exact W.zret (ty := .boolean) hx hb hr (fm_bI_z _) (fun t ht hW => ⟨_, rfl, by rw [show fm_WD (fm_RB f) 1 = i by omega], ht⟩) (fun q hq => by cases hq) d_MO_areSizesRight_98
  · have c_10 : ¬ (fm_WD (fm_RB f) 1 ≤ i) := fun z => c0 ((nI_leI (a := fm_WD (fm_RB f) 1) (b := i) (by omega) (by omega)).mpr z)
    have hin := fm_pin hL (p := 1) (k := i) (by decide) (Nat.lt_of_not_le c_10)
    refine lv_iload_n hx hb d_MO_areSizesRight_13 rfl (lv_at hl 1 rfl) ?_
    refine lv_if_eq (tgt := 89) hx hb d_MO_areSizesRight_14 (by decide) (fun c0 => ?_) (fun c0 => ?_)
    · have c_14 : (fm_all (i) (fm_size1 (fm_RB f))) = false := fm_bI_f c0
      refine lv_iconst (v := nI (0)) hx hb d_MO_areSizesRight_89 (by decide) ?_
      refine fm_tw (z := (fm_bI (fm_all (i + 1) (fm_size1 (fm_RB f))))) (by first | (refine fm_bI_1 ?_; simp [fm_all, fm_size1, Nat.lt_of_not_le c_29, Nat.lt_of_not_le c_47, Nat.lt_of_not_le c_65, Nat.lt_of_not_le c_82, c_14]; done) | (refine fm_bI_0 ?_; simp [fm_all, c_14]; done) | (refine fm_bI_0 ?_; simp [fm_all, fm_size1, Nat.not_lt.mpr c_29]; done) | (refine fm_bI_0 ?_; simp [fm_all, fm_size1, Nat.not_lt.mpr c_47]; done) | (refine fm_bI_0 ?_; simp [fm_all, fm_size1, Nat.not_lt.mpr c_65]; done) | (refine fm_bI_0 ?_; simp [fm_all, fm_size1, Nat.not_lt.mpr c_82]; done)) ?_
      refine lv_istore_n (lv' := [(1, .int (fm_bI (fm_all (i + 1) (fm_size1 (fm_RB f))))), (0, .ref fa), (2, .int (nI (i)))]) hx hb d_MO_areSizesRight_90 rfl hl (by decide) rfl (fun ls hl => ?_)
      refine lv_iinc (v := nI (i + 1)) (lv' := [(2, .int (nI (i + 1))), (1, .int (fm_bI (fm_all (i + 1) (fm_size1 (fm_RB f))))), (0, .ref fa)]) hx hb d_MO_areSizesRight_91 hl (k := 2) rfl (nI_1 _) (by decide) rfl (fun ls hl => ?_)
      refine lv_goto (tgt := 4) hx hb d_MO_areSizesRight_94 (by decide) ?_
      exact ih_4 (i + 1) ls (by omega) (by omega) (lv_sub hl [2, 1, 0] rfl)
    · have c_14 : (fm_all (i) (fm_size1 (fm_RB f))) = true := fm_bI_t c0
      refine lv_aload_n hx hb d_MO_areSizesRight_17 rfl (lv_at hl 0 rfl) ?_
      refine lv_iconst (v := nI (1)) hx hb d_MO_areSizesRight_18 (by decide) ?_
      refine lv_iload_n hx hb d_MO_areSizesRight_19 rfl (lv_at hl 2 rfl) ?_
      refine lv_iconst (v := nI (0)) hx hb d_MO_areSizesRight_20 (by decide) ?_
      refine fm_cs S (c_MO_at l dC dI fa cB f 1 i 0 (by omega) (hq) (by omega) (by omega)) rfl rfl k_MO_at q_3_184 ⟨Nat.le_of_ble_eq_true rfl, Nat.le_of_ble_eq_true rfl⟩ (hP.sub [0] rfl) (hK.sub [0] rfl) rfl hl.1 rfl (Nat.le_of_ble_eq_true rfl) ⟨Nat.zero_le _, Nat.zero_le _⟩ d_MO_areSizesRight_21 ?_
      have f0_21 := fm_AT_lt (fm_RB_lt f) 1 i 0
      refine lv_aload_n hx hb d_MO_areSizesRight_24 rfl (lv_at hl 0 rfl) ?_
      refine lv_iconst (v := nI (2)) hx hb d_MO_areSizesRight_25 (by decide) ?_
      refine fm_cs S (c_MO_words l dC dI fa cB f 2 (by omega) (fun _ => hq)) rfl rfl k_MO_words q_3_175 ⟨Nat.le_of_ble_eq_true rfl, Nat.le_of_ble_eq_true rfl⟩ (hP.sub [0] rfl) (hK.sub [0] rfl) rfl hl.1 rfl (Nat.le_of_ble_eq_true rfl) ⟨Nat.zero_le _, Nat.zero_le _⟩ d_MO_areSizesRight_26 ?_
      have f0_26 := fm_WD_le (fm_RB_lt f) 2
      refine lv_icmp_ge (tgt := 89) hx hb d_MO_areSizesRight_29 (by decide) (fun c0 => ?_) (fun c0 => ?_)
      · have c_29 : fm_WD (fm_RB f) 2 ≤ fm_AT (fm_RB f) 1 i 0 := (nI_leI (a := fm_WD (fm_RB f) 2) (b := fm_AT (fm_RB f) 1 i 0) (by omega) (by omega)).mp c0
        refine lv_iconst (v := nI (0)) hx hb d_MO_areSizesRight_89 (by decide) ?_
        refine fm_tw (z := (fm_bI (fm_all (i + 1) (fm_size1 (fm_RB f))))) (by first | (refine fm_bI_1 ?_; simp [fm_all, fm_size1, Nat.lt_of_not_le c_29, Nat.lt_of_not_le c_47, Nat.lt_of_not_le c_65, Nat.lt_of_not_le c_82, c_14]; done) | (refine fm_bI_0 ?_; simp [fm_all, c_14]; done) | (refine fm_bI_0 ?_; simp [fm_all, fm_size1, Nat.not_lt.mpr c_29]; done) | (refine fm_bI_0 ?_; simp [fm_all, fm_size1, Nat.not_lt.mpr c_47]; done) | (refine fm_bI_0 ?_; simp [fm_all, fm_size1, Nat.not_lt.mpr c_65]; done) | (refine fm_bI_0 ?_; simp [fm_all, fm_size1, Nat.not_lt.mpr c_82]; done)) ?_
        refine lv_istore_n (lv' := [(1, .int (fm_bI (fm_all (i + 1) (fm_size1 (fm_RB f))))), (0, .ref fa), (2, .int (nI (i)))]) hx hb d_MO_areSizesRight_90 rfl hl (by decide) rfl (fun ls hl => ?_)
        refine lv_iinc (v := nI (i + 1)) (lv' := [(2, .int (nI (i + 1))), (1, .int (fm_bI (fm_all (i + 1) (fm_size1 (fm_RB f))))), (0, .ref fa)]) hx hb d_MO_areSizesRight_91 hl (k := 2) rfl (nI_1 _) (by decide) rfl (fun ls hl => ?_)
        refine lv_goto (tgt := 4) hx hb d_MO_areSizesRight_94 (by decide) ?_
        exact ih_4 (i + 1) ls (by omega) (by omega) (lv_sub hl [2, 1, 0] rfl)
      · have c_29 : ¬ (fm_WD (fm_RB f) 2 ≤ fm_AT (fm_RB f) 1 i 0) := fun z => c0 ((nI_leI (a := fm_WD (fm_RB f) 2) (b := fm_AT (fm_RB f) 1 i 0) (by omega) (by omega)).mpr z)
        refine lv_aload_n hx hb d_MO_areSizesRight_32 rfl (lv_at hl 0 rfl) ?_
        refine lv_iconst (v := nI (1)) hx hb d_MO_areSizesRight_33 (by decide) ?_
        refine lv_iload_n hx hb d_MO_areSizesRight_34 rfl (lv_at hl 2 rfl) ?_
        refine lv_iconst (v := nI (1)) hx hb d_MO_areSizesRight_35 (by decide) ?_
        refine fm_cs S (c_MO_at l dC dI fa cB f 1 i 1 (by omega) (hq) (by omega) (by omega)) rfl rfl k_MO_at q_3_184 ⟨Nat.le_of_ble_eq_true rfl, Nat.le_of_ble_eq_true rfl⟩ (hP.sub [0] rfl) (hK.sub [0] rfl) rfl hl.1 rfl (Nat.le_of_ble_eq_true rfl) ⟨Nat.zero_le _, Nat.zero_le _⟩ d_MO_areSizesRight_36 ?_
        have f0_36 := fm_AT_lt (fm_RB_lt f) 1 i 1
        refine lv_bipush (v := nI (16)) hx hb d_MO_areSizesRight_39 (by decide) ?_
        refine lv_idiv hx hb d_MO_areSizesRight_41 (by decide) ?_
        refine fm_tw (z := nI ((fm_AT (fm_RB f) 1 i 1) / 16)) (pk_div (by omega) (by omega) (by omega)) ?_
        refine lv_aload_n hx hb d_MO_areSizesRight_42 rfl (lv_at hl 0 rfl) ?_
        refine lv_iconst (v := nI (3)) hx hb d_MO_areSizesRight_43 (by decide) ?_
        refine fm_cs S (c_MO_words l dC dI fa cB f 3 (by omega) (fun _ => hq)) rfl rfl k_MO_words q_3_175 ⟨Nat.le_of_ble_eq_true rfl, Nat.le_of_ble_eq_true rfl⟩ (hP.sub [0] rfl) (hK.sub [0] rfl) rfl hl.1 rfl (Nat.le_of_ble_eq_true rfl) ⟨Nat.zero_le _, Nat.zero_le _⟩ d_MO_areSizesRight_44 ?_
        have f0_44 := fm_WD_le (fm_RB_lt f) 3
        refine lv_icmp_ge (tgt := 89) hx hb d_MO_areSizesRight_47 (by decide) (fun c0 => ?_) (fun c0 => ?_)
        · have c_47 : fm_WD (fm_RB f) 3 ≤ (fm_AT (fm_RB f) 1 i 1) / 16 := (nI_leI (a := fm_WD (fm_RB f) 3) (b := (fm_AT (fm_RB f) 1 i 1) / 16) (by omega) (by omega)).mp c0
          refine lv_iconst (v := nI (0)) hx hb d_MO_areSizesRight_89 (by decide) ?_
          refine fm_tw (z := (fm_bI (fm_all (i + 1) (fm_size1 (fm_RB f))))) (by first | (refine fm_bI_1 ?_; simp [fm_all, fm_size1, Nat.lt_of_not_le c_29, Nat.lt_of_not_le c_47, Nat.lt_of_not_le c_65, Nat.lt_of_not_le c_82, c_14]; done) | (refine fm_bI_0 ?_; simp [fm_all, c_14]; done) | (refine fm_bI_0 ?_; simp [fm_all, fm_size1, Nat.not_lt.mpr c_29]; done) | (refine fm_bI_0 ?_; simp [fm_all, fm_size1, Nat.not_lt.mpr c_47]; done) | (refine fm_bI_0 ?_; simp [fm_all, fm_size1, Nat.not_lt.mpr c_65]; done) | (refine fm_bI_0 ?_; simp [fm_all, fm_size1, Nat.not_lt.mpr c_82]; done)) ?_
          refine lv_istore_n (lv' := [(1, .int (fm_bI (fm_all (i + 1) (fm_size1 (fm_RB f))))), (0, .ref fa), (2, .int (nI (i)))]) hx hb d_MO_areSizesRight_90 rfl hl (by decide) rfl (fun ls hl => ?_)
          refine lv_iinc (v := nI (i + 1)) (lv' := [(2, .int (nI (i + 1))), (1, .int (fm_bI (fm_all (i + 1) (fm_size1 (fm_RB f))))), (0, .ref fa)]) hx hb d_MO_areSizesRight_91 hl (k := 2) rfl (nI_1 _) (by decide) rfl (fun ls hl => ?_)
          refine lv_goto (tgt := 4) hx hb d_MO_areSizesRight_94 (by decide) ?_
          exact ih_4 (i + 1) ls (by omega) (by omega) (lv_sub hl [2, 1, 0] rfl)
        · have c_47 : ¬ (fm_WD (fm_RB f) 3 ≤ (fm_AT (fm_RB f) 1 i 1) / 16) := fun z => c0 ((nI_leI (a := fm_WD (fm_RB f) 3) (b := (fm_AT (fm_RB f) 1 i 1) / 16) (by omega) (by omega)).mpr z)
          refine lv_aload_n hx hb d_MO_areSizesRight_50 rfl (lv_at hl 0 rfl) ?_
          refine lv_iconst (v := nI (1)) hx hb d_MO_areSizesRight_51 (by decide) ?_
          refine lv_iload_n hx hb d_MO_areSizesRight_52 rfl (lv_at hl 2 rfl) ?_
          refine lv_iconst (v := nI (1)) hx hb d_MO_areSizesRight_53 (by decide) ?_
          refine fm_cs S (c_MO_at l dC dI fa cB f 1 i 1 (by omega) (hq) (by omega) (by omega)) rfl rfl k_MO_at q_3_184 ⟨Nat.le_of_ble_eq_true rfl, Nat.le_of_ble_eq_true rfl⟩ (hP.sub [0] rfl) (hK.sub [0] rfl) rfl hl.1 rfl (Nat.le_of_ble_eq_true rfl) ⟨Nat.zero_le _, Nat.zero_le _⟩ d_MO_areSizesRight_54 ?_
          have f0_54 := fm_AT_lt (fm_RB_lt f) 1 i 1
          refine lv_bipush (v := nI (16)) hx hb d_MO_areSizesRight_57 (by decide) ?_
          refine lv_irem hx hb d_MO_areSizesRight_59 (by decide) ?_
          refine fm_tw (z := nI ((fm_AT (fm_RB f) 1 i 1) % 16)) (pk_rem (by omega) (by omega) (by omega)) ?_
          refine lv_aload_n hx hb d_MO_areSizesRight_60 rfl (lv_at hl 0 rfl) ?_
          refine lv_iconst (v := nI (4)) hx hb d_MO_areSizesRight_61 (by decide) ?_
          refine fm_cs S (c_MO_words l dC dI fa cB f 4 (by omega) (fun _ => hq)) rfl rfl k_MO_words q_3_175 ⟨Nat.le_of_ble_eq_true rfl, Nat.le_of_ble_eq_true rfl⟩ (hP.sub [0] rfl) (hK.sub [0] rfl) rfl hl.1 rfl (Nat.le_of_ble_eq_true rfl) ⟨Nat.zero_le _, Nat.zero_le _⟩ d_MO_areSizesRight_62 ?_
          have f0_62 := fm_WD_le (fm_RB_lt f) 4
          refine lv_icmp_ge (tgt := 89) hx hb d_MO_areSizesRight_65 (by decide) (fun c0 => ?_) (fun c0 => ?_)
          · have c_65 : fm_WD (fm_RB f) 4 ≤ (fm_AT (fm_RB f) 1 i 1) % 16 := (nI_leI (a := fm_WD (fm_RB f) 4) (b := (fm_AT (fm_RB f) 1 i 1) % 16) (by omega) (by omega)).mp c0
            refine lv_iconst (v := nI (0)) hx hb d_MO_areSizesRight_89 (by decide) ?_
            refine fm_tw (z := (fm_bI (fm_all (i + 1) (fm_size1 (fm_RB f))))) (by first | (refine fm_bI_1 ?_; simp [fm_all, fm_size1, Nat.lt_of_not_le c_29, Nat.lt_of_not_le c_47, Nat.lt_of_not_le c_65, Nat.lt_of_not_le c_82, c_14]; done) | (refine fm_bI_0 ?_; simp [fm_all, c_14]; done) | (refine fm_bI_0 ?_; simp [fm_all, fm_size1, Nat.not_lt.mpr c_29]; done) | (refine fm_bI_0 ?_; simp [fm_all, fm_size1, Nat.not_lt.mpr c_47]; done) | (refine fm_bI_0 ?_; simp [fm_all, fm_size1, Nat.not_lt.mpr c_65]; done) | (refine fm_bI_0 ?_; simp [fm_all, fm_size1, Nat.not_lt.mpr c_82]; done)) ?_
            refine lv_istore_n (lv' := [(1, .int (fm_bI (fm_all (i + 1) (fm_size1 (fm_RB f))))), (0, .ref fa), (2, .int (nI (i)))]) hx hb d_MO_areSizesRight_90 rfl hl (by decide) rfl (fun ls hl => ?_)
            refine lv_iinc (v := nI (i + 1)) (lv' := [(2, .int (nI (i + 1))), (1, .int (fm_bI (fm_all (i + 1) (fm_size1 (fm_RB f))))), (0, .ref fa)]) hx hb d_MO_areSizesRight_91 hl (k := 2) rfl (nI_1 _) (by decide) rfl (fun ls hl => ?_)
            refine lv_goto (tgt := 4) hx hb d_MO_areSizesRight_94 (by decide) ?_
            exact ih_4 (i + 1) ls (by omega) (by omega) (lv_sub hl [2, 1, 0] rfl)
          · have c_65 : ¬ (fm_WD (fm_RB f) 4 ≤ (fm_AT (fm_RB f) 1 i 1) % 16) := fun z => c0 ((nI_leI (a := fm_WD (fm_RB f) 4) (b := (fm_AT (fm_RB f) 1 i 1) % 16) (by omega) (by omega)).mpr z)
            refine lv_aload_n hx hb d_MO_areSizesRight_68 rfl (lv_at hl 0 rfl) ?_
            refine lv_iconst (v := nI (1)) hx hb d_MO_areSizesRight_69 (by decide) ?_
            refine lv_iload_n hx hb d_MO_areSizesRight_70 rfl (lv_at hl 2 rfl) ?_
            refine lv_iconst (v := nI (2)) hx hb d_MO_areSizesRight_71 (by decide) ?_
            refine fm_cs S (c_MO_at l dC dI fa cB f 1 i 2 (by omega) (hq) (by omega) (by omega)) rfl rfl k_MO_at q_3_184 ⟨Nat.le_of_ble_eq_true rfl, Nat.le_of_ble_eq_true rfl⟩ (hP.sub [0] rfl) (hK.sub [0] rfl) rfl hl.1 rfl (Nat.le_of_ble_eq_true rfl) ⟨Nat.zero_le _, Nat.zero_le _⟩ d_MO_areSizesRight_72 ?_
            have f0_72 := fm_AT_lt (fm_RB_lt f) 1 i 2
            refine lv_iconst (v := nI (4)) hx hb d_MO_areSizesRight_75 (by decide) ?_
            refine lv_idiv hx hb d_MO_areSizesRight_76 (by decide) ?_
            refine fm_tw (z := nI ((fm_AT (fm_RB f) 1 i 2) / 4)) (pk_div (by omega) (by omega) (by omega)) ?_
            refine lv_aload_n hx hb d_MO_areSizesRight_77 rfl (lv_at hl 0 rfl) ?_
            refine lv_iconst (v := nI (5)) hx hb d_MO_areSizesRight_78 (by decide) ?_
            refine fm_cs S (c_MO_words l dC dI fa cB f 5 (by omega) (fun _ => hq)) rfl rfl k_MO_words q_3_175 ⟨Nat.le_of_ble_eq_true rfl, Nat.le_of_ble_eq_true rfl⟩ (hP.sub [0] rfl) (hK.sub [0] rfl) rfl hl.1 rfl (Nat.le_of_ble_eq_true rfl) ⟨Nat.zero_le _, Nat.zero_le _⟩ d_MO_areSizesRight_79 ?_
            have f0_79 := fm_WD_le (fm_RB_lt f) 5
            refine lv_icmp_ge (tgt := 89) hx hb d_MO_areSizesRight_82 (by decide) (fun c0 => ?_) (fun c0 => ?_)
            · have c_82 : fm_WD (fm_RB f) 5 ≤ (fm_AT (fm_RB f) 1 i 2) / 4 := (nI_leI (a := fm_WD (fm_RB f) 5) (b := (fm_AT (fm_RB f) 1 i 2) / 4) (by omega) (by omega)).mp c0
              refine lv_iconst (v := nI (0)) hx hb d_MO_areSizesRight_89 (by decide) ?_
              refine fm_tw (z := (fm_bI (fm_all (i + 1) (fm_size1 (fm_RB f))))) (by first | (refine fm_bI_1 ?_; simp [fm_all, fm_size1, Nat.lt_of_not_le c_29, Nat.lt_of_not_le c_47, Nat.lt_of_not_le c_65, Nat.lt_of_not_le c_82, c_14]; done) | (refine fm_bI_0 ?_; simp [fm_all, c_14]; done) | (refine fm_bI_0 ?_; simp [fm_all, fm_size1, Nat.not_lt.mpr c_29]; done) | (refine fm_bI_0 ?_; simp [fm_all, fm_size1, Nat.not_lt.mpr c_47]; done) | (refine fm_bI_0 ?_; simp [fm_all, fm_size1, Nat.not_lt.mpr c_65]; done) | (refine fm_bI_0 ?_; simp [fm_all, fm_size1, Nat.not_lt.mpr c_82]; done)) ?_
              refine lv_istore_n (lv' := [(1, .int (fm_bI (fm_all (i + 1) (fm_size1 (fm_RB f))))), (0, .ref fa), (2, .int (nI (i)))]) hx hb d_MO_areSizesRight_90 rfl hl (by decide) rfl (fun ls hl => ?_)
              refine lv_iinc (v := nI (i + 1)) (lv' := [(2, .int (nI (i + 1))), (1, .int (fm_bI (fm_all (i + 1) (fm_size1 (fm_RB f))))), (0, .ref fa)]) hx hb d_MO_areSizesRight_91 hl (k := 2) rfl (nI_1 _) (by decide) rfl (fun ls hl => ?_)
              refine lv_goto (tgt := 4) hx hb d_MO_areSizesRight_94 (by decide) ?_
              exact ih_4 (i + 1) ls (by omega) (by omega) (lv_sub hl [2, 1, 0] rfl)
            · have c_82 : ¬ (fm_WD (fm_RB f) 5 ≤ (fm_AT (fm_RB f) 1 i 2) / 4) := fun z => c0 ((nI_leI (a := fm_WD (fm_RB f) 5) (b := (fm_AT (fm_RB f) 1 i 2) / 4) (by omega) (by omega)).mpr z)
              refine lv_iconst (v := nI (1)) hx hb d_MO_areSizesRight_85 (by decide) ?_
              refine lv_goto (tgt := 90) hx hb d_MO_areSizesRight_86 (by decide) ?_
              refine fm_tw (z := (fm_bI (fm_all (i + 1) (fm_size1 (fm_RB f))))) (by first | (refine fm_bI_1 ?_; simp [fm_all, fm_size1, Nat.lt_of_not_le c_29, Nat.lt_of_not_le c_47, Nat.lt_of_not_le c_65, Nat.lt_of_not_le c_82, c_14]; done) | (refine fm_bI_0 ?_; simp [fm_all, c_14]; done) | (refine fm_bI_0 ?_; simp [fm_all, fm_size1, Nat.not_lt.mpr c_29]; done) | (refine fm_bI_0 ?_; simp [fm_all, fm_size1, Nat.not_lt.mpr c_47]; done) | (refine fm_bI_0 ?_; simp [fm_all, fm_size1, Nat.not_lt.mpr c_65]; done) | (refine fm_bI_0 ?_; simp [fm_all, fm_size1, Nat.not_lt.mpr c_82]; done)) ?_
              refine lv_istore_n (lv' := [(1, .int (fm_bI (fm_all (i + 1) (fm_size1 (fm_RB f))))), (0, .ref fa), (2, .int (nI (i)))]) hx hb d_MO_areSizesRight_90 rfl hl (by decide) rfl (fun ls hl => ?_)
              refine lv_iinc (v := nI (i + 1)) (lv' := [(2, .int (nI (i + 1))), (1, .int (fm_bI (fm_all (i + 1) (fm_size1 (fm_RB f))))), (0, .ref fa)]) hx hb d_MO_areSizesRight_91 hl (k := 2) rfl (nI_1 _) (by decide) rfl (fun ls hl => ?_)
              refine lv_goto (tgt := 4) hx hb d_MO_areSizesRight_94 (by decide) ?_
              exact ih_4 (i + 1) ls (by omega) (by omega) (lv_sub hl [2, 1, 0] rfl)
theorem d_MO_isLargerRight_0 : decode b_MO_isLargerRight 0 = .ok (.aload_n 0, 1) := by decide +kernel
theorem d_MO_isLargerRight_1 : decode b_MO_isLargerRight 1 = .ok (.iload_n 1, 1) := by decide +kernel
theorem d_MO_isLargerRight_2 : decode b_MO_isLargerRight 2 = .ok (.invokestatic 50, 3) := by decide +kernel
theorem d_MO_isLargerRight_5 : decode b_MO_isLargerRight 5 = .ok (.istore_n 2, 1) := by decide +kernel
theorem d_MO_isLargerRight_6 : decode b_MO_isLargerRight 6 = .ok (.aload_n 0, 1) := by decide +kernel
theorem d_MO_isLargerRight_7 : decode b_MO_isLargerRight 7 = .ok (.iload_n 2, 1) := by decide +kernel
theorem d_MO_isLargerRight_8 : decode b_MO_isLargerRight 8 = .ok (.invokestatic 53, 3) := by decide +kernel
theorem d_MO_isLargerRight_11 : decode b_MO_isLargerRight 11 = .ok (.ifCond .ne 5, 3) := by decide +kernel
theorem d_MO_isLargerRight_14 : decode b_MO_isLargerRight 14 = .ok (.iconst 0, 1) := by decide +kernel
theorem d_MO_isLargerRight_15 : decode b_MO_isLargerRight 15 = .ok (.ireturn, 1) := by decide +kernel
theorem d_MO_isLargerRight_16 : decode b_MO_isLargerRight 16 = .ok (.iconst 0, 1) := by decide +kernel
theorem d_MO_isLargerRight_17 : decode b_MO_isLargerRight 17 = .ok (.istore_n 3, 1) := by decide +kernel
theorem d_MO_isLargerRight_18 : decode b_MO_isLargerRight 18 = .ok (.iload_n 3, 1) := by decide +kernel
theorem d_MO_isLargerRight_19 : decode b_MO_isLargerRight 19 = .ok (.sipush 256, 3) := by decide +kernel
theorem d_MO_isLargerRight_22 : decode b_MO_isLargerRight 22 = .ok (.if_icmp .ge 41, 3) := by decide +kernel
theorem d_MO_isLargerRight_25 : decode b_MO_isLargerRight 25 = .ok (.iload_n 2, 1) := by decide +kernel
theorem d_MO_isLargerRight_26 : decode b_MO_isLargerRight 26 = .ok (.iload_n 1, 1) := by decide +kernel
theorem d_MO_isLargerRight_27 : decode b_MO_isLargerRight 27 = .ok (.if_icmp .ne 5, 3) := by decide +kernel
theorem d_MO_isLargerRight_30 : decode b_MO_isLargerRight 30 = .ok (.iconst 0, 1) := by decide +kernel
theorem d_MO_isLargerRight_31 : decode b_MO_isLargerRight 31 = .ok (.ireturn, 1) := by decide +kernel
theorem d_MO_isLargerRight_32 : decode b_MO_isLargerRight 32 = .ok (.aload_n 0, 1) := by decide +kernel
theorem d_MO_isLargerRight_33 : decode b_MO_isLargerRight 33 = .ok (.iload_n 2, 1) := by decide +kernel
theorem d_MO_isLargerRight_34 : decode b_MO_isLargerRight 34 = .ok (.invokestatic 53, 3) := by decide +kernel
theorem d_MO_isLargerRight_37 : decode b_MO_isLargerRight 37 = .ok (.ifCond .eq 12, 3) := by decide +kernel
theorem d_MO_isLargerRight_40 : decode b_MO_isLargerRight 40 = .ok (.aload_n 0, 1) := by decide +kernel
theorem d_MO_isLargerRight_41 : decode b_MO_isLargerRight 41 = .ok (.iload_n 2, 1) := by decide +kernel
theorem d_MO_isLargerRight_42 : decode b_MO_isLargerRight 42 = .ok (.invokestatic 57, 3) := by decide +kernel
theorem d_MO_isLargerRight_45 : decode b_MO_isLargerRight 45 = .ok (.iconst 2, 1) := by decide +kernel
theorem d_MO_isLargerRight_46 : decode b_MO_isLargerRight 46 = .ok (.if_icmp .eq 5, 3) := by decide +kernel
theorem d_MO_isLargerRight_49 : decode b_MO_isLargerRight 49 = .ok (.iconst 1, 1) := by decide +kernel
theorem d_MO_isLargerRight_50 : decode b_MO_isLargerRight 50 = .ok (.ireturn, 1) := by decide +kernel
theorem d_MO_isLargerRight_51 : decode b_MO_isLargerRight 51 = .ok (.aload_n 0, 1) := by decide +kernel
theorem d_MO_isLargerRight_52 : decode b_MO_isLargerRight 52 = .ok (.iload_n 2, 1) := by decide +kernel
theorem d_MO_isLargerRight_53 : decode b_MO_isLargerRight 53 = .ok (.invokestatic 50, 3) := by decide +kernel
theorem d_MO_isLargerRight_56 : decode b_MO_isLargerRight 56 = .ok (.istore_n 2, 1) := by decide +kernel
theorem d_MO_isLargerRight_57 : decode b_MO_isLargerRight 57 = .ok (.iinc 3 1, 3) := by decide +kernel
theorem d_MO_isLargerRight_60 : decode b_MO_isLargerRight 60 = .ok (.goto (-42), 3) := by decide +kernel
theorem d_MO_isLargerRight_63 : decode b_MO_isLargerRight 63 = .ok (.iconst 1, 1) := by decide +kernel
theorem d_MO_isLargerRight_64 : decode b_MO_isLargerRight 64 = .ok (.ireturn, 1) := by decide +kernel
set_option maxHeartbeats 4000000 in
set_option maxRecDepth 100000 in
theorem c_MO_isLargerRight (l : Launch) (dC : Nat → ClassId) (dI : Nat → Nat → Nat) (fa : Nat) (cB : ClassId) (f : Nat → Int32) (c : Nat) (hL : fm_Len (fm_RB f)) (h1 : fm_HF (fm_RB f) 2 ≤ c) (h2 : c ≤ fm_HF (fm_RB f) 3) : fm_M l (dC, dI) y_MO_isLargerRight w_MO_isLargerRight ({ frames := 5, cells := 0, slots := 0, locals := 109 }) [.ref fa, .int (nI (c))] [(fa, .inl (cB, 8192, .inl (f)))] [(cB, .byte)] ((fm_bI (fm_larger (fm_RB f) c))) := by
  refine Met.ofW (cc := b_MO_isLargerRight) (maxL := 4) (ret := (some .boolean)) (by decide) rfl ?_
  intro pg ev s m args below meth cd s₁ BD hml hv
  obtain ⟨rfl, hP, hK⟩ := hv
  have hx := BD.exec
  have hb := BD.bytes
  have hr := BD.returns
  have hts := atoms_spec (ws := w_MO_isLargerRight) BD.pre
  have ht : ∀ w ∈ fm_T, w.before _ s = true := fun w h => hts w (List.mem_cons_of_mem _ h)
  have hown : s.vm.findClass R_MO = some m.cls := findClass_of_methodNamed BD.named
  have hlocks := BD.notSynchronized
  have S : CallFix pg m cd b_MO_isLargerRight 4 s _ w_MO_isLargerRight R_MO := ⟨hx, hb, hml, hown, hts⟩
  have hl := lv_entry ([.ref fa, .int (nI (c))]) (n := 4) (Nat.le_of_ble_eq_true rfl)
  rw [lg_entry_eq]
  generalize (lg_sl ([.ref fa, .int (nI (c))]) ++ List.replicate (4 - (lg_sl ([.ref fa, .int (nI (c))])).length) Slot.unset).toArray = ls at hl ⊢
  have hl : lv_has ls 4 [(0, .ref fa), (1, .int (nI (c)))] := hl
  obtain ⟨-, hq, h3, h10⟩ := id hL
  have hci := fm_cin hL h1 h2
  refine lv_aload_n hx hb d_MO_isLargerRight_0 rfl (lv_at hl 0 rfl) ?_
  refine lv_iload_n hx hb d_MO_isLargerRight_1 rfl (lv_at hl 1 rfl) ?_
  refine fm_cs S (c_MO_rest l dC dI fa cB f c (hL) (by omega) (by omega)) rfl rfl k_MO_rest q_3_200 ⟨Nat.le_of_ble_eq_true rfl, Nat.le_of_ble_eq_true rfl⟩ (hP.sub [0] rfl) (hK.sub [0] rfl) rfl hl.1 rfl (Nat.le_of_ble_eq_true rfl) ⟨Nat.zero_le _, Nat.zero_le _⟩ d_MO_isLargerRight_2 ?_
  have f0_2 := fm_rest_lt (fm_RB_lt f) c
  refine lv_istore_n (lv' := [(2, .int (nI (fm_rest (fm_RB f) c))), (0, .ref fa), (1, .int (nI (c)))]) hx hb d_MO_isLargerRight_5 rfl hl (by decide) rfl (fun ls hl => ?_)
  refine lv_aload_n hx hb d_MO_isLargerRight_6 rfl (lv_at hl 1 rfl) ?_
  refine lv_iload_n hx hb d_MO_isLargerRight_7 rfl (lv_at hl 0 rfl) ?_
  refine fm_cs S (c_MO_isThereN l dC dI fa cB f (fm_rest (fm_RB f) c) (by omega) (hL)) rfl rfl k_MO_isThere q_3_194 ⟨Nat.le_of_ble_eq_true rfl, Nat.le_of_ble_eq_true rfl⟩ (hP.sub [0] rfl) (hK.sub [0] rfl) rfl hl.1 rfl (Nat.le_of_ble_eq_true rfl) ⟨Nat.zero_le _, Nat.zero_le _⟩ d_MO_isLargerRight_8 ?_
  refine lv_if_ne (tgt := 16) hx hb d_MO_isLargerRight_11 (by decide) (fun c0 => ?_) (fun c0 => ?_)
  · have c_11 : (fm_th (fm_RB f) (fm_rest (fm_RB f) c)) = true := fm_bI_t c0
    refine lv_iconst (v := nI (0)) hx hb d_MO_isLargerRight_16 (by decide) ?_
    refine lv_istore_n (lv' := [(3, .int (nI (0))), (2, .int (nI (fm_rest (fm_RB f) c))), (0, .ref fa), (1, .int (nI (c)))]) hx hb d_MO_isLargerRight_17 rfl hl (by decide) rfl (fun ls hl => ?_)
    refine fm_loop2 (LV := fun (i : Nat) (x : Nat) => [(0, .ref fa), (1, .int (nI (c))), (2, .int (nI (x))), (3, .int (nI (i)))]) (I := fun (i : Nat) (x : Nat) => i ≤ 256 ∧ x < 256 ∧ fm_lead (fm_RB f) c (256 - i) x = fm_lead (fm_RB f) c 256 (fm_rest (fm_RB f) c)) (μ := fun (i : Nat) (x : Nat) => 256 - i) ?_ 0 (fm_rest (fm_RB f) c) (⟨by decide, by omega, rfl⟩) ls (lv_sub hl [2, 3, 1, 0] rfl)
    intro i x hI_18 ih_18 ls hl
    have hl : lv_has ls 4 [(0, .ref fa), (1, .int (nI (c))), (2, .int (nI (x))), (3, .int (nI (i)))] := hl
    obtain ⟨hi, hx256, hlead⟩ := hI_18
    refine lv_iload_n hx hb d_MO_isLargerRight_18 rfl (lv_at hl 3 rfl) ?_
    refine lv_sipush (v := nI (256)) hx hb d_MO_isLargerRight_19 (by decide) ?_
    refine lv_icmp_ge (tgt := 63) hx hb d_MO_isLargerRight_22 (by decide) (fun c0 => ?_) (fun c0 => ?_)
    · have c_22 : 256 ≤ i := (nI_leI (a := 256) (b := i) (by omega) (by omega)).mp c0
      refine lv_iconst (v := nI (1)) hx hb d_MO_isLargerRight_63 (by decide) ?_
      exact W.zret (ty := .boolean) hx hb hr (rfl) (fun t ht hW => ⟨_, rfl, by unfold fm_larger; rw [c_11, ← hlead, show 256 - i = 0 by omega]; rfl, ht⟩) (fun q hq => by cases hq) d_MO_isLargerRight_64
    · have c_22 : ¬ (256 ≤ i) := fun z => c0 ((nI_leI (a := 256) (b := i) (by omega) (by omega)).mpr z)
      refine lv_iload_n hx hb d_MO_isLargerRight_25 rfl (lv_at hl 2 rfl) ?_
      refine lv_iload_n hx hb d_MO_isLargerRight_26 rfl (lv_at hl 1 rfl) ?_
      refine lv_icmp_ne (tgt := 32) hx hb d_MO_isLargerRight_27 (by decide) (fun c0 => ?_) (fun c0 => ?_)
      · have c_27 : ¬ (x = c) := fun z => c0 ((nI_eq (a := x) (b := c) (by omega) (by omega)).mpr z)
        refine lv_aload_n hx hb d_MO_isLargerRight_32 rfl (lv_at hl 0 rfl) ?_
        refine lv_iload_n hx hb d_MO_isLargerRight_33 rfl (lv_at hl 2 rfl) ?_
        refine fm_cs S (c_MO_isThereN l dC dI fa cB f x (by omega) (hL)) rfl rfl k_MO_isThere q_3_194 ⟨Nat.le_of_ble_eq_true rfl, Nat.le_of_ble_eq_true rfl⟩ (hP.sub [0] rfl) (hK.sub [0] rfl) rfl hl.1 rfl (Nat.le_of_ble_eq_true rfl) ⟨Nat.zero_le _, Nat.zero_le _⟩ d_MO_isLargerRight_34 ?_
        refine lv_if_eq (tgt := 49) hx hb d_MO_isLargerRight_37 (by decide) (fun c0 => ?_) (fun c0 => ?_)
        · have c_37 : (fm_th (fm_RB f) x) = false := fm_bI_f c0
          refine lv_iconst (v := nI (1)) hx hb d_MO_isLargerRight_49 (by decide) ?_
          exact W.zret (ty := .boolean) hx hb hr (rfl) (fun t ht hW => ⟨_, rfl, by unfold fm_larger; rw [c_11, ← hlead, fm_lead_s (by omega), if_neg c_27]; first | (rw [if_pos (Or.inl c_37)]; rfl) | (rw [if_pos (Or.inr c_46)]; rfl), ht⟩) (fun q hq => by cases hq) d_MO_isLargerRight_50
        · have c_37 : (fm_th (fm_RB f) x) = true := fm_bI_t c0
          obtain ⟨hx1, hx2, -⟩ := fm_th_in c_37
          refine lv_aload_n hx hb d_MO_isLargerRight_40 rfl (lv_at hl 0 rfl) ?_
          refine lv_iload_n hx hb d_MO_isLargerRight_41 rfl (lv_at hl 2 rfl) ?_
          refine fm_cs S (c_MO_tag l dC dI fa cB f x (hL) (hx1) (hx2)) rfl rfl k_MO_tag q_3_197 ⟨Nat.le_of_ble_eq_true rfl, Nat.le_of_ble_eq_true rfl⟩ (hP.sub [0] rfl) (hK.sub [0] rfl) rfl hl.1 rfl (Nat.le_of_ble_eq_true rfl) ⟨Nat.zero_le _, Nat.zero_le _⟩ d_MO_isLargerRight_42 ?_
          have f0_42 := fm_tag_lt (fm_RB f) x
          refine lv_iconst (v := nI (2)) hx hb d_MO_isLargerRight_45 (by decide) ?_
          refine lv_icmp_eq (tgt := 51) hx hb d_MO_isLargerRight_46 (by decide) (fun c0 => ?_) (fun c0 => ?_)
          · have c_46 : fm_tag (fm_RB f) x = 2 := (nI_eq (a := fm_tag (fm_RB f) x) (b := 2) (by omega) (by omega)).mp c0
            refine lv_aload_n hx hb d_MO_isLargerRight_51 rfl (lv_at hl 0 rfl) ?_
            refine lv_iload_n hx hb d_MO_isLargerRight_52 rfl (lv_at hl 2 rfl) ?_
            refine fm_cs S (c_MO_rest l dC dI fa cB f x (hL) (hx1) (hx2)) rfl rfl k_MO_rest q_3_200 ⟨Nat.le_of_ble_eq_true rfl, Nat.le_of_ble_eq_true rfl⟩ (hP.sub [0] rfl) (hK.sub [0] rfl) rfl hl.1 rfl (Nat.le_of_ble_eq_true rfl) ⟨Nat.zero_le _, Nat.zero_le _⟩ d_MO_isLargerRight_53 ?_
            have f0_53 := fm_rest_lt (fm_RB_lt f) x
            refine lv_istore_n (lv' := [(2, .int (nI (fm_rest (fm_RB f) x))), (0, .ref fa), (1, .int (nI (c))), (3, .int (nI (i)))]) hx hb d_MO_isLargerRight_56 rfl hl (by decide) rfl (fun ls hl => ?_)
            refine lv_iinc (v := nI (i + 1)) (lv' := [(3, .int (nI (i + 1))), (2, .int (nI (fm_rest (fm_RB f) x))), (0, .ref fa), (1, .int (nI (c)))]) hx hb d_MO_isLargerRight_57 hl (k := 3) rfl (nI_1 _) (by decide) rfl (fun ls hl => ?_)
            refine lv_goto (tgt := 18) hx hb d_MO_isLargerRight_60 (by decide) ?_
            exact ih_18 (i + 1) (fm_rest (fm_RB f) x) ls (⟨by omega, by omega, by rw [← hlead, fm_lead_s (i := i) (x := x) (by omega), if_neg c_27, if_neg (fun z => z.elim (fun q => by rw [c_37] at q; cases q) (fun q => q c_46))]⟩) (by omega) (lv_sub hl [2, 3, 1, 0] rfl)
          · have c_46 : ¬ (fm_tag (fm_RB f) x = 2) := fun z => c0 ((nI_eq (a := fm_tag (fm_RB f) x) (b := 2) (by omega) (by omega)).mpr z)
            refine lv_iconst (v := nI (1)) hx hb d_MO_isLargerRight_49 (by decide) ?_
            exact W.zret (ty := .boolean) hx hb hr (rfl) (fun t ht hW => ⟨_, rfl, by unfold fm_larger; rw [c_11, ← hlead, fm_lead_s (by omega), if_neg c_27]; first | (rw [if_pos (Or.inl c_37)]; rfl) | (rw [if_pos (Or.inr c_46)]; rfl), ht⟩) (fun q hq => by cases hq) d_MO_isLargerRight_50
      · have c_27 : x = c := (nI_eq (a := x) (b := c) (by omega) (by omega)).mp c0
        refine lv_iconst (v := nI (0)) hx hb d_MO_isLargerRight_30 (by decide) ?_
        exact W.zret (ty := .boolean) hx hb hr (rfl) (fun t ht hW => ⟨_, rfl, by unfold fm_larger; rw [c_11, ← hlead, fm_lead_s (by omega), if_pos c_27]; rfl, ht⟩) (fun q hq => by cases hq) d_MO_isLargerRight_31
  · have c_11 : (fm_th (fm_RB f) (fm_rest (fm_RB f) c)) = false := fm_bI_f c0
    refine lv_iconst (v := nI (0)) hx hb d_MO_isLargerRight_14 (by decide) ?_
    exact W.zret (ty := .boolean) hx hb hr (rfl) (fun t ht hW => ⟨_, rfl, by unfold fm_larger; rw [c_11]; rfl, ht⟩) (fun q hq => by cases hq) d_MO_isLargerRight_15
theorem d_MO_areTagsRight_0 : decode b_MO_areTagsRight 0 = .ok (.iconst 1, 1) := by decide +kernel
theorem d_MO_areTagsRight_1 : decode b_MO_areTagsRight 1 = .ok (.istore_n 1, 1) := by decide +kernel
theorem d_MO_areTagsRight_2 : decode b_MO_areTagsRight 2 = .ok (.aload_n 0, 1) := by decide +kernel
theorem d_MO_areTagsRight_3 : decode b_MO_areTagsRight 3 = .ok (.iconst 2, 1) := by decide +kernel
theorem d_MO_areTagsRight_4 : decode b_MO_areTagsRight 4 = .ok (.invokestatic 33, 3) := by decide +kernel
theorem d_MO_areTagsRight_7 : decode b_MO_areTagsRight 7 = .ok (.istore_n 2, 1) := by decide +kernel
theorem d_MO_areTagsRight_8 : decode b_MO_areTagsRight 8 = .ok (.iload_n 2, 1) := by decide +kernel
theorem d_MO_areTagsRight_9 : decode b_MO_areTagsRight 9 = .ok (.aload_n 0, 1) := by decide +kernel
theorem d_MO_areTagsRight_10 : decode b_MO_areTagsRight 10 = .ok (.iconst 3, 1) := by decide +kernel
theorem d_MO_areTagsRight_11 : decode b_MO_areTagsRight 11 = .ok (.invokestatic 33, 3) := by decide +kernel
theorem d_MO_areTagsRight_14 : decode b_MO_areTagsRight 14 = .ok (.if_icmp .gt 84, 3) := by decide +kernel
theorem d_MO_areTagsRight_17 : decode b_MO_areTagsRight 17 = .ok (.aload_n 0, 1) := by decide +kernel
theorem d_MO_areTagsRight_18 : decode b_MO_areTagsRight 18 = .ok (.iload_n 2, 1) := by decide +kernel
theorem d_MO_areTagsRight_19 : decode b_MO_areTagsRight 19 = .ok (.invokestatic 53, 3) := by decide +kernel
theorem d_MO_areTagsRight_22 : decode b_MO_areTagsRight 22 = .ok (.ifCond .eq 70, 3) := by decide +kernel
theorem d_MO_areTagsRight_25 : decode b_MO_areTagsRight 25 = .ok (.aload_n 0, 1) := by decide +kernel
theorem d_MO_areTagsRight_26 : decode b_MO_areTagsRight 26 = .ok (.iload_n 2, 1) := by decide +kernel
theorem d_MO_areTagsRight_27 : decode b_MO_areTagsRight 27 = .ok (.invokestatic 57, 3) := by decide +kernel
theorem d_MO_areTagsRight_30 : decode b_MO_areTagsRight 30 = .ok (.istore_n 3, 1) := by decide +kernel
theorem d_MO_areTagsRight_31 : decode b_MO_areTagsRight 31 = .ok (.iload_n 1, 1) := by decide +kernel
theorem d_MO_areTagsRight_32 : decode b_MO_areTagsRight 32 = .ok (.ifCond .eq 58, 3) := by decide +kernel
theorem d_MO_areTagsRight_35 : decode b_MO_areTagsRight 35 = .ok (.iload_n 3, 1) := by decide +kernel
theorem d_MO_areTagsRight_36 : decode b_MO_areTagsRight 36 = .ok (.iconst 1, 1) := by decide +kernel
theorem d_MO_areTagsRight_37 : decode b_MO_areTagsRight 37 = .ok (.if_icmp .ne 17, 3) := by decide +kernel
theorem d_MO_areTagsRight_40 : decode b_MO_areTagsRight 40 = .ok (.aload_n 0, 1) := by decide +kernel
theorem d_MO_areTagsRight_41 : decode b_MO_areTagsRight 41 = .ok (.iload_n 2, 1) := by decide +kernel
theorem d_MO_areTagsRight_42 : decode b_MO_areTagsRight 42 = .ok (.invokestatic 50, 3) := by decide +kernel
theorem d_MO_areTagsRight_45 : decode b_MO_areTagsRight 45 = .ok (.aload_n 0, 1) := by decide +kernel
theorem d_MO_areTagsRight_46 : decode b_MO_areTagsRight 46 = .ok (.bipush 6, 2) := by decide +kernel
theorem d_MO_areTagsRight_48 : decode b_MO_areTagsRight 48 = .ok (.invokestatic 37, 3) := by decide +kernel
theorem d_MO_areTagsRight_51 : decode b_MO_areTagsRight 51 = .ok (.if_icmp .ge 39, 3) := by decide +kernel
theorem d_MO_areTagsRight_54 : decode b_MO_areTagsRight 54 = .ok (.iload_n 3, 1) := by decide +kernel
theorem d_MO_areTagsRight_55 : decode b_MO_areTagsRight 55 = .ok (.iconst 3, 1) := by decide +kernel
theorem d_MO_areTagsRight_56 : decode b_MO_areTagsRight 56 = .ok (.if_icmp .ne 17, 3) := by decide +kernel
theorem d_MO_areTagsRight_59 : decode b_MO_areTagsRight 59 = .ok (.aload_n 0, 1) := by decide +kernel
theorem d_MO_areTagsRight_60 : decode b_MO_areTagsRight 60 = .ok (.iload_n 2, 1) := by decide +kernel
theorem d_MO_areTagsRight_61 : decode b_MO_areTagsRight 61 = .ok (.invokestatic 50, 3) := by decide +kernel
theorem d_MO_areTagsRight_64 : decode b_MO_areTagsRight 64 = .ok (.aload_n 0, 1) := by decide +kernel
theorem d_MO_areTagsRight_65 : decode b_MO_areTagsRight 65 = .ok (.bipush 8, 2) := by decide +kernel
theorem d_MO_areTagsRight_67 : decode b_MO_areTagsRight 67 = .ok (.invokestatic 37, 3) := by decide +kernel
theorem d_MO_areTagsRight_70 : decode b_MO_areTagsRight 70 = .ok (.if_icmp .ge 20, 3) := by decide +kernel
theorem d_MO_areTagsRight_73 : decode b_MO_areTagsRight 73 = .ok (.iload_n 3, 1) := by decide +kernel
theorem d_MO_areTagsRight_74 : decode b_MO_areTagsRight 74 = .ok (.iconst 2, 1) := by decide +kernel
theorem d_MO_areTagsRight_75 : decode b_MO_areTagsRight 75 = .ok (.if_icmp .ne 11, 3) := by decide +kernel
theorem d_MO_areTagsRight_78 : decode b_MO_areTagsRight 78 = .ok (.aload_n 0, 1) := by decide +kernel
theorem d_MO_areTagsRight_79 : decode b_MO_areTagsRight 79 = .ok (.iload_n 2, 1) := by decide +kernel
theorem d_MO_areTagsRight_80 : decode b_MO_areTagsRight 80 = .ok (.invokestatic 60, 3) := by decide +kernel
theorem d_MO_areTagsRight_83 : decode b_MO_areTagsRight 83 = .ok (.ifCond .eq 7, 3) := by decide +kernel
theorem d_MO_areTagsRight_86 : decode b_MO_areTagsRight 86 = .ok (.iconst 1, 1) := by decide +kernel
theorem d_MO_areTagsRight_87 : decode b_MO_areTagsRight 87 = .ok (.goto 4, 3) := by decide +kernel
theorem d_MO_areTagsRight_90 : decode b_MO_areTagsRight 90 = .ok (.iconst 0, 1) := by decide +kernel
theorem d_MO_areTagsRight_91 : decode b_MO_areTagsRight 91 = .ok (.istore_n 1, 1) := by decide +kernel
theorem d_MO_areTagsRight_92 : decode b_MO_areTagsRight 92 = .ok (.iinc 2 1, 3) := by decide +kernel
theorem d_MO_areTagsRight_95 : decode b_MO_areTagsRight 95 = .ok (.goto (-87), 3) := by decide +kernel
theorem d_MO_areTagsRight_98 : decode b_MO_areTagsRight 98 = .ok (.iload_n 1, 1) := by decide +kernel
theorem d_MO_areTagsRight_99 : decode b_MO_areTagsRight 99 = .ok (.ireturn, 1) := by decide +kernel
set_option maxHeartbeats 4000000 in
set_option maxRecDepth 100000 in
theorem c_MO_areTagsRight (l : Launch) (dC : Nat → ClassId) (dI : Nat → Nat → Nat) (fa : Nat) (cB : ClassId) (f : Nat → Int32) (hL : fm_Len (fm_RB f)) : fm_M l (dC, dI) y_MO_areTagsRight w_MO_areTagsRight ({ frames := 6, cells := 0, slots := 0, locals := 132 }) [.ref fa] [(fa, .inl (cB, 8192, .inl (f)))] [(cB, .byte)] ((fm_bI (fm_all (fm_WD (fm_RB f) 1) (fun k => fm_tag1 (fm_RB f) (fm_HF (fm_RB f) 2 + k))))) := by
  refine Met.ofW (cc := b_MO_areTagsRight) (maxL := 4) (ret := (some .boolean)) (by decide) rfl ?_
  intro pg ev s m args below meth cd s₁ BD hml hv
  obtain ⟨rfl, hP, hK⟩ := hv
  have hx := BD.exec
  have hb := BD.bytes
  have hr := BD.returns
  have hts := atoms_spec (ws := w_MO_areTagsRight) BD.pre
  have ht : ∀ w ∈ fm_T, w.before _ s = true := fun w h => hts w (List.mem_cons_of_mem _ h)
  have hown : s.vm.findClass R_MO = some m.cls := findClass_of_methodNamed BD.named
  have hlocks := BD.notSynchronized
  have S : CallFix pg m cd b_MO_areTagsRight 4 s _ w_MO_areTagsRight R_MO := ⟨hx, hb, hml, hown, hts⟩
  have hl := lv_entry ([.ref fa]) (n := 4) (Nat.le_of_ble_eq_true rfl)
  rw [lg_entry_eq]
  generalize (lg_sl ([.ref fa]) ++ List.replicate (4 - (lg_sl ([.ref fa])).length) Slot.unset).toArray = ls at hl ⊢
  have hl : lv_has ls 4 [(0, .ref fa)] := hl
  obtain ⟨-, hq, h3, h10⟩ := id hL
  have hw1 := fm_WD1 (fm_RB f)
  refine lv_iconst (v := nI (1)) hx hb d_MO_areTagsRight_0 (by decide) ?_
  refine lv_istore_n (lv' := [(1, .int (nI (1))), (0, .ref fa)]) hx hb d_MO_areTagsRight_1 rfl hl (by decide) rfl (fun ls hl => ?_)
  refine lv_aload_n hx hb d_MO_areTagsRight_2 rfl (lv_at hl 1 rfl) ?_
  refine lv_iconst (v := nI (2)) hx hb d_MO_areTagsRight_3 (by decide) ?_
  refine fm_cs S (c_MO_half l dC dI fa cB f 2 (by omega)) rfl rfl k_MO_half q_3_172 ⟨Nat.le_of_ble_eq_true rfl, Nat.le_of_ble_eq_true rfl⟩ (hP.sub [0] rfl) (hK.sub [0] rfl) rfl hl.1 rfl (Nat.le_of_ble_eq_true rfl) ⟨Nat.zero_le _, Nat.zero_le _⟩ d_MO_areTagsRight_4 ?_
  have f0_4 := fm_HF_lt (fm_RB_lt f) 2
  refine lv_istore_n (lv' := [(2, .int (nI (fm_HF (fm_RB f) 2))), (1, .int (nI (1))), (0, .ref fa)]) hx hb d_MO_areTagsRight_7 rfl hl (by decide) rfl (fun ls hl => ?_)
  refine fm_loop1 (LV := fun (i : Nat) => [(0, .ref fa), (1, .int (fm_bI (fm_all (i) (fun k => fm_tag1 (fm_RB f) (fm_HF (fm_RB f) 2 + k))))), (2, .int (nI (fm_HF (fm_RB f) 2 + i)))]) (I := fun (i : Nat) => i ≤ fm_WD (fm_RB f) 1) (μ := fun (i : Nat) => fm_WD (fm_RB f) 1 - i) ?_ 0 (Nat.zero_le _) ls (lv_sub hl [2, 1, 0] rfl)
  intro i hI_8 ih_8 ls hl
  have hl : lv_has ls 4 [(0, .ref fa), (1, .int (fm_bI (fm_all (i) (fun k => fm_tag1 (fm_RB f) (fm_HF (fm_RB f) 2 + k))))), (2, .int (nI (fm_HF (fm_RB f) 2 + i)))] := hl
  refine lv_iload_n hx hb d_MO_areTagsRight_8 rfl (lv_at hl 2 rfl) ?_
  refine lv_aload_n hx hb d_MO_areTagsRight_9 rfl (lv_at hl 0 rfl) ?_
  refine lv_iconst (v := nI (3)) hx hb d_MO_areTagsRight_10 (by decide) ?_
  refine fm_cs S (c_MO_half l dC dI fa cB f 3 (by omega)) rfl rfl k_MO_half q_3_172 ⟨Nat.le_of_ble_eq_true rfl, Nat.le_of_ble_eq_true rfl⟩ (hP.sub [0] rfl) (hK.sub [0] rfl) rfl hl.1 rfl (Nat.le_of_ble_eq_true rfl) ⟨Nat.zero_le _, Nat.zero_le _⟩ d_MO_areTagsRight_11 ?_
  have f0_11 := fm_HF_lt (fm_RB_lt f) 3
  refine lv_icmp_gt (tgt := 98) hx hb d_MO_areTagsRight_14 (by decide) (fun c0 => ?_) (fun c0 => ?_)
  · have c_14 : fm_HF (fm_RB f) 3 < fm_HF (fm_RB f) 2 + i := (nI_ltI (a := fm_HF (fm_RB f) 3) (b := fm_HF (fm_RB f) 2 + i) (by omega) (by omega)).mp c0
    refine lv_iload_n hx hb d_MO_areTagsRight_98 rfl (lv_at hl 1 rfl) ?_
    exact W.zret (ty := .boolean) hx hb hr (fm_bI_z _) (fun t ht hW => ⟨_, rfl, by rw [show fm_WD (fm_RB f) 1 = i by omega], ht⟩) (fun q hq => by cases hq) d_MO_areTagsRight_99
  · have c_14 : ¬ (fm_HF (fm_RB f) 3 < fm_HF (fm_RB f) 2 + i) := fun z => c0 ((nI_ltI (a := fm_HF (fm_RB f) 3) (b := fm_HF (fm_RB f) 2 + i) (by omega) (by omega)).mpr z)
    refine lv_aload_n hx hb d_MO_areTagsRight_17 rfl (lv_at hl 0 rfl) ?_
    refine lv_iload_n hx hb d_MO_areTagsRight_18 rfl (lv_at hl 2 rfl) ?_
    refine fm_cs S (c_MO_isThereN l dC dI fa cB f (fm_HF (fm_RB f) 2 + i) (by omega) (hL)) rfl rfl k_MO_isThere q_3_194 ⟨Nat.le_of_ble_eq_true rfl, Nat.le_of_ble_eq_true rfl⟩ (hP.sub [0] rfl) (hK.sub [0] rfl) rfl hl.1 rfl (Nat.le_of_ble_eq_true rfl) ⟨Nat.zero_le _, Nat.zero_le _⟩ d_MO_areTagsRight_19 ?_
    refine lv_if_eq (tgt := 92) hx hb d_MO_areTagsRight_22 (by decide) (fun c0 => ?_) (fun c0 => ?_)
    · have c_22 : (fm_th (fm_RB f) (fm_HF (fm_RB f) 2 + i)) = false := fm_bI_f c0
      have hl : lv_has ls 4 [(0, .ref fa), (1, .int (fm_bI (fm_all (i + 1) (fun k => fm_tag1 (fm_RB f) (fm_HF (fm_RB f) 2 + k))))), (2, .int (nI (fm_HF (fm_RB f) 2 + i)))] := by rw [show ((fm_bI (fm_all (i) (fun k => fm_tag1 (fm_RB f) (fm_HF (fm_RB f) 2 + k)))) : Int32) = (fm_bI (fm_all (i + 1) (fun k => fm_tag1 (fm_RB f) (fm_HF (fm_RB f) 2 + k)))) from fm_st0 (fm_tag1_0 c_22)] at hl; exact hl
      refine lv_iinc (v := nI (fm_HF (fm_RB f) 2 + i + 1)) (lv' := [(2, .int (nI (fm_HF (fm_RB f) 2 + i + 1))), (0, .ref fa), (1, .int (fm_bI (fm_all (i + 1) (fun k => fm_tag1 (fm_RB f) (fm_HF (fm_RB f) 2 + k)))))]) hx hb d_MO_areTagsRight_92 hl (k := 2) rfl (nI_1 _) (by decide) rfl (fun ls hl => ?_)
      refine lv_goto (tgt := 8) hx hb d_MO_areTagsRight_95 (by decide) ?_
      exact ih_8 (i + 1) ls (by omega) (by omega) (lv_sub hl [1, 2, 0] rfl)
    · have c_22 : (fm_th (fm_RB f) (fm_HF (fm_RB f) 2 + i)) = true := fm_bI_t c0
      obtain ⟨hx1, hx2, -⟩ := fm_th_in c_22
      refine lv_aload_n hx hb d_MO_areTagsRight_25 rfl (lv_at hl 0 rfl) ?_
      refine lv_iload_n hx hb d_MO_areTagsRight_26 rfl (lv_at hl 2 rfl) ?_
      refine fm_cs S (c_MO_tag l dC dI fa cB f (fm_HF (fm_RB f) 2 + i) (hL) (by omega) (by omega)) rfl rfl k_MO_tag q_3_197 ⟨Nat.le_of_ble_eq_true rfl, Nat.le_of_ble_eq_true rfl⟩ (hP.sub [0] rfl) (hK.sub [0] rfl) rfl hl.1 rfl (Nat.le_of_ble_eq_true rfl) ⟨Nat.zero_le _, Nat.zero_le _⟩ d_MO_areTagsRight_27 ?_
      have f0_27 := fm_tag_lt (fm_RB f) (fm_HF (fm_RB f) 2 + i)
      refine lv_istore_n (lv' := [(3, .int (nI (fm_tag (fm_RB f) (fm_HF (fm_RB f) 2 + i)))), (0, .ref fa), (1, .int (fm_bI (fm_all (i) (fun k => fm_tag1 (fm_RB f) (fm_HF (fm_RB f) 2 + k))))), (2, .int (nI (fm_HF (fm_RB f) 2 + i)))]) hx hb d_MO_areTagsRight_30 rfl hl (by decide) rfl (fun ls hl => ?_)
      refine lv_iload_n hx hb d_MO_areTagsRight_31 rfl (lv_at hl 2 rfl) ?_
      refine lv_if_eq (tgt := 90) hx hb d_MO_areTagsRight_32 (by decide) (fun c0 => ?_) (fun c0 => ?_)
      · have c_32 : (fm_all (i) (fun k => fm_tag1 (fm_RB f) (fm_HF (fm_RB f) 2 + k))) = false := fm_bI_f c0
        refine lv_iconst (v := nI (0)) hx hb d_MO_areTagsRight_90 (by decide) ?_
        refine fm_tw (z := (fm_bI (fm_all (i + 1) (fun k => fm_tag1 (fm_RB f) (fm_HF (fm_RB f) 2 + k))))) (by first | exact fm_stF1 c_32 | exact fm_stT c_32 (fm_tag1_t (fun h => by omega) (fun h => by omega) (fun h => by first | exact c_83 | omega)) | exact fm_stF2 (fm_tag1_f c_22 (Or.inr (Or.inr ⟨c_75, c_83⟩))) | exact fm_stF2 (fm_tag1_f c_22 (Or.inr (Or.inl ⟨c_56, c_70⟩))) | exact fm_stF2 (fm_tag1_f c_22 (Or.inl ⟨c_37, c_51⟩))) ?_
        refine lv_istore_n (lv' := [(1, .int (fm_bI (fm_all (i + 1) (fun k => fm_tag1 (fm_RB f) (fm_HF (fm_RB f) 2 + k))))), (3, .int (nI (fm_tag (fm_RB f) (fm_HF (fm_RB f) 2 + i)))), (0, .ref fa), (2, .int (nI (fm_HF (fm_RB f) 2 + i)))]) hx hb d_MO_areTagsRight_91 rfl hl (by decide) rfl (fun ls hl => ?_)
        refine lv_iinc (v := nI (fm_HF (fm_RB f) 2 + i + 1)) (lv' := [(2, .int (nI (fm_HF (fm_RB f) 2 + i + 1))), (1, .int (fm_bI (fm_all (i + 1) (fun k => fm_tag1 (fm_RB f) (fm_HF (fm_RB f) 2 + k))))), (3, .int (nI (fm_tag (fm_RB f) (fm_HF (fm_RB f) 2 + i)))), (0, .ref fa)]) hx hb d_MO_areTagsRight_92 hl (k := 3) rfl (nI_1 _) (by decide) rfl (fun ls hl => ?_)
        refine lv_goto (tgt := 8) hx hb d_MO_areTagsRight_95 (by decide) ?_
        exact ih_8 (i + 1) ls (by omega) (by omega) (lv_sub hl [3, 1, 0] rfl)
      · have c_32 : (fm_all (i) (fun k => fm_tag1 (fm_RB f) (fm_HF (fm_RB f) 2 + k))) = true := fm_bI_t c0
        refine lv_iload_n hx hb d_MO_areTagsRight_35 rfl (lv_at hl 0 rfl) ?_
        refine lv_iconst (v := nI (1)) hx hb d_MO_areTagsRight_36 (by decide) ?_
        refine lv_icmp_ne (tgt := 54) hx hb d_MO_areTagsRight_37 (by decide) (fun c0 => ?_) (fun c0 => ?_)
        · have c_37 : ¬ (fm_tag (fm_RB f) (fm_HF (fm_RB f) 2 + i) = 1) := fun z => c0 ((nI_eq (a := fm_tag (fm_RB f) (fm_HF (fm_RB f) 2 + i)) (b := 1) (by omega) (by omega)).mpr z)
          refine lv_iload_n hx hb d_MO_areTagsRight_54 rfl (lv_at hl 0 rfl) ?_
          refine lv_iconst (v := nI (3)) hx hb d_MO_areTagsRight_55 (by decide) ?_
          refine lv_icmp_ne (tgt := 73) hx hb d_MO_areTagsRight_56 (by decide) (fun c0 => ?_) (fun c0 => ?_)
          · have c_56 : ¬ (fm_tag (fm_RB f) (fm_HF (fm_RB f) 2 + i) = 3) := fun z => c0 ((nI_eq (a := fm_tag (fm_RB f) (fm_HF (fm_RB f) 2 + i)) (b := 3) (by omega) (by omega)).mpr z)
            refine lv_iload_n hx hb d_MO_areTagsRight_73 rfl (lv_at hl 0 rfl) ?_
            refine lv_iconst (v := nI (2)) hx hb d_MO_areTagsRight_74 (by decide) ?_
            refine lv_icmp_ne (tgt := 86) hx hb d_MO_areTagsRight_75 (by decide) (fun c0 => ?_) (fun c0 => ?_)
            · have c_75 : ¬ (fm_tag (fm_RB f) (fm_HF (fm_RB f) 2 + i) = 2) := fun z => c0 ((nI_eq (a := fm_tag (fm_RB f) (fm_HF (fm_RB f) 2 + i)) (b := 2) (by omega) (by omega)).mpr z)
              refine lv_iconst (v := nI (1)) hx hb d_MO_areTagsRight_86 (by decide) ?_
              refine lv_goto (tgt := 91) hx hb d_MO_areTagsRight_87 (by decide) ?_
              refine fm_tw (z := (fm_bI (fm_all (i + 1) (fun k => fm_tag1 (fm_RB f) (fm_HF (fm_RB f) 2 + k))))) (by first | exact fm_stF1 c_32 | exact fm_stT c_32 (fm_tag1_t (fun h => by omega) (fun h => by omega) (fun h => by first | exact c_83 | omega)) | exact fm_stF2 (fm_tag1_f c_22 (Or.inr (Or.inr ⟨c_75, c_83⟩))) | exact fm_stF2 (fm_tag1_f c_22 (Or.inr (Or.inl ⟨c_56, c_70⟩))) | exact fm_stF2 (fm_tag1_f c_22 (Or.inl ⟨c_37, c_51⟩))) ?_
              refine lv_istore_n (lv' := [(1, .int (fm_bI (fm_all (i + 1) (fun k => fm_tag1 (fm_RB f) (fm_HF (fm_RB f) 2 + k))))), (3, .int (nI (fm_tag (fm_RB f) (fm_HF (fm_RB f) 2 + i)))), (0, .ref fa), (2, .int (nI (fm_HF (fm_RB f) 2 + i)))]) hx hb d_MO_areTagsRight_91 rfl hl (by decide) rfl (fun ls hl => ?_)
              refine lv_iinc (v := nI (fm_HF (fm_RB f) 2 + i + 1)) (lv' := [(2, .int (nI (fm_HF (fm_RB f) 2 + i + 1))), (1, .int (fm_bI (fm_all (i + 1) (fun k => fm_tag1 (fm_RB f) (fm_HF (fm_RB f) 2 + k))))), (3, .int (nI (fm_tag (fm_RB f) (fm_HF (fm_RB f) 2 + i)))), (0, .ref fa)]) hx hb d_MO_areTagsRight_92 hl (k := 3) rfl (nI_1 _) (by decide) rfl (fun ls hl => ?_)
              refine lv_goto (tgt := 8) hx hb d_MO_areTagsRight_95 (by decide) ?_
              exact ih_8 (i + 1) ls (by omega) (by omega) (lv_sub hl [3, 1, 0] rfl)
            · have c_75 : fm_tag (fm_RB f) (fm_HF (fm_RB f) 2 + i) = 2 := (nI_eq (a := fm_tag (fm_RB f) (fm_HF (fm_RB f) 2 + i)) (b := 2) (by omega) (by omega)).mp c0
              refine lv_aload_n hx hb d_MO_areTagsRight_78 rfl (lv_at hl 1 rfl) ?_
              refine lv_iload_n hx hb d_MO_areTagsRight_79 rfl (lv_at hl 3 rfl) ?_
              refine fm_cs S (c_MO_isLargerRight l dC dI fa cB f (fm_HF (fm_RB f) 2 + i) (hL) (by omega) (by omega)) rfl rfl k_MO_isLargerRight q_3_203 ⟨Nat.le_of_ble_eq_true rfl, Nat.le_of_ble_eq_true rfl⟩ (hP.sub [0] rfl) (hK.sub [0] rfl) rfl hl.1 rfl (Nat.le_of_ble_eq_true rfl) ⟨Nat.zero_le _, Nat.zero_le _⟩ d_MO_areTagsRight_80 ?_
              refine lv_if_eq (tgt := 90) hx hb d_MO_areTagsRight_83 (by decide) (fun c0 => ?_) (fun c0 => ?_)
              · have c_83 : (fm_larger (fm_RB f) (fm_HF (fm_RB f) 2 + i)) = false := fm_bI_f c0
                refine lv_iconst (v := nI (0)) hx hb d_MO_areTagsRight_90 (by decide) ?_
                refine fm_tw (z := (fm_bI (fm_all (i + 1) (fun k => fm_tag1 (fm_RB f) (fm_HF (fm_RB f) 2 + k))))) (by first | exact fm_stF1 c_32 | exact fm_stT c_32 (fm_tag1_t (fun h => by omega) (fun h => by omega) (fun h => by first | exact c_83 | omega)) | exact fm_stF2 (fm_tag1_f c_22 (Or.inr (Or.inr ⟨c_75, c_83⟩))) | exact fm_stF2 (fm_tag1_f c_22 (Or.inr (Or.inl ⟨c_56, c_70⟩))) | exact fm_stF2 (fm_tag1_f c_22 (Or.inl ⟨c_37, c_51⟩))) ?_
                refine lv_istore_n (lv' := [(1, .int (fm_bI (fm_all (i + 1) (fun k => fm_tag1 (fm_RB f) (fm_HF (fm_RB f) 2 + k))))), (3, .int (nI (fm_tag (fm_RB f) (fm_HF (fm_RB f) 2 + i)))), (0, .ref fa), (2, .int (nI (fm_HF (fm_RB f) 2 + i)))]) hx hb d_MO_areTagsRight_91 rfl hl (by decide) rfl (fun ls hl => ?_)
                refine lv_iinc (v := nI (fm_HF (fm_RB f) 2 + i + 1)) (lv' := [(2, .int (nI (fm_HF (fm_RB f) 2 + i + 1))), (1, .int (fm_bI (fm_all (i + 1) (fun k => fm_tag1 (fm_RB f) (fm_HF (fm_RB f) 2 + k))))), (3, .int (nI (fm_tag (fm_RB f) (fm_HF (fm_RB f) 2 + i)))), (0, .ref fa)]) hx hb d_MO_areTagsRight_92 hl (k := 3) rfl (nI_1 _) (by decide) rfl (fun ls hl => ?_)
                refine lv_goto (tgt := 8) hx hb d_MO_areTagsRight_95 (by decide) ?_
                exact ih_8 (i + 1) ls (by omega) (by omega) (lv_sub hl [3, 1, 0] rfl)
              · have c_83 : (fm_larger (fm_RB f) (fm_HF (fm_RB f) 2 + i)) = true := fm_bI_t c0
                refine lv_iconst (v := nI (1)) hx hb d_MO_areTagsRight_86 (by decide) ?_
                refine lv_goto (tgt := 91) hx hb d_MO_areTagsRight_87 (by decide) ?_
                refine fm_tw (z := (fm_bI (fm_all (i + 1) (fun k => fm_tag1 (fm_RB f) (fm_HF (fm_RB f) 2 + k))))) (by first | exact fm_stF1 c_32 | exact fm_stT c_32 (fm_tag1_t (fun h => by omega) (fun h => by omega) (fun h => by first | exact c_83 | omega)) | exact fm_stF2 (fm_tag1_f c_22 (Or.inr (Or.inr ⟨c_75, c_83⟩))) | exact fm_stF2 (fm_tag1_f c_22 (Or.inr (Or.inl ⟨c_56, c_70⟩))) | exact fm_stF2 (fm_tag1_f c_22 (Or.inl ⟨c_37, c_51⟩))) ?_
                refine lv_istore_n (lv' := [(1, .int (fm_bI (fm_all (i + 1) (fun k => fm_tag1 (fm_RB f) (fm_HF (fm_RB f) 2 + k))))), (3, .int (nI (fm_tag (fm_RB f) (fm_HF (fm_RB f) 2 + i)))), (0, .ref fa), (2, .int (nI (fm_HF (fm_RB f) 2 + i)))]) hx hb d_MO_areTagsRight_91 rfl hl (by decide) rfl (fun ls hl => ?_)
                refine lv_iinc (v := nI (fm_HF (fm_RB f) 2 + i + 1)) (lv' := [(2, .int (nI (fm_HF (fm_RB f) 2 + i + 1))), (1, .int (fm_bI (fm_all (i + 1) (fun k => fm_tag1 (fm_RB f) (fm_HF (fm_RB f) 2 + k))))), (3, .int (nI (fm_tag (fm_RB f) (fm_HF (fm_RB f) 2 + i)))), (0, .ref fa)]) hx hb d_MO_areTagsRight_92 hl (k := 3) rfl (nI_1 _) (by decide) rfl (fun ls hl => ?_)
                refine lv_goto (tgt := 8) hx hb d_MO_areTagsRight_95 (by decide) ?_
                exact ih_8 (i + 1) ls (by omega) (by omega) (lv_sub hl [3, 1, 0] rfl)
          · have c_56 : fm_tag (fm_RB f) (fm_HF (fm_RB f) 2 + i) = 3 := (nI_eq (a := fm_tag (fm_RB f) (fm_HF (fm_RB f) 2 + i)) (b := 3) (by omega) (by omega)).mp c0
            refine lv_aload_n hx hb d_MO_areTagsRight_59 rfl (lv_at hl 1 rfl) ?_
            refine lv_iload_n hx hb d_MO_areTagsRight_60 rfl (lv_at hl 3 rfl) ?_
            refine fm_cs S (c_MO_rest l dC dI fa cB f (fm_HF (fm_RB f) 2 + i) (hL) (by omega) (by omega)) rfl rfl k_MO_rest q_3_200 ⟨Nat.le_of_ble_eq_true rfl, Nat.le_of_ble_eq_true rfl⟩ (hP.sub [0] rfl) (hK.sub [0] rfl) rfl hl.1 rfl (Nat.le_of_ble_eq_true rfl) ⟨Nat.zero_le _, Nat.zero_le _⟩ d_MO_areTagsRight_61 ?_
            have f0_61 := fm_rest_lt (fm_RB_lt f) (fm_HF (fm_RB f) 2 + i)
            refine lv_aload_n hx hb d_MO_areTagsRight_64 rfl (lv_at hl 1 rfl) ?_
            refine lv_bipush (v := nI (8)) hx hb d_MO_areTagsRight_65 (by decide) ?_
            refine fm_cs S (c_MO_words l dC dI fa cB f 8 (by omega) (fun _ => hq)) rfl rfl k_MO_words q_3_175 ⟨Nat.le_of_ble_eq_true rfl, Nat.le_of_ble_eq_true rfl⟩ (hP.sub [0] rfl) (hK.sub [0] rfl) rfl hl.1 rfl (Nat.le_of_ble_eq_true rfl) ⟨Nat.zero_le _, Nat.zero_le _⟩ d_MO_areTagsRight_67 ?_
            have f0_67 := fm_WD_le (fm_RB_lt f) 8
            refine lv_icmp_ge (tgt := 90) hx hb d_MO_areTagsRight_70 (by decide) (fun c0 => ?_) (fun c0 => ?_)
            · have c_70 : fm_WD (fm_RB f) 8 ≤ fm_rest (fm_RB f) (fm_HF (fm_RB f) 2 + i) := (nI_leI (a := fm_WD (fm_RB f) 8) (b := fm_rest (fm_RB f) (fm_HF (fm_RB f) 2 + i)) (by omega) (by omega)).mp c0
              refine lv_iconst (v := nI (0)) hx hb d_MO_areTagsRight_90 (by decide) ?_
              refine fm_tw (z := (fm_bI (fm_all (i + 1) (fun k => fm_tag1 (fm_RB f) (fm_HF (fm_RB f) 2 + k))))) (by first | exact fm_stF1 c_32 | exact fm_stT c_32 (fm_tag1_t (fun h => by omega) (fun h => by omega) (fun h => by first | exact c_83 | omega)) | exact fm_stF2 (fm_tag1_f c_22 (Or.inr (Or.inr ⟨c_75, c_83⟩))) | exact fm_stF2 (fm_tag1_f c_22 (Or.inr (Or.inl ⟨c_56, c_70⟩))) | exact fm_stF2 (fm_tag1_f c_22 (Or.inl ⟨c_37, c_51⟩))) ?_
              refine lv_istore_n (lv' := [(1, .int (fm_bI (fm_all (i + 1) (fun k => fm_tag1 (fm_RB f) (fm_HF (fm_RB f) 2 + k))))), (3, .int (nI (fm_tag (fm_RB f) (fm_HF (fm_RB f) 2 + i)))), (0, .ref fa), (2, .int (nI (fm_HF (fm_RB f) 2 + i)))]) hx hb d_MO_areTagsRight_91 rfl hl (by decide) rfl (fun ls hl => ?_)
              refine lv_iinc (v := nI (fm_HF (fm_RB f) 2 + i + 1)) (lv' := [(2, .int (nI (fm_HF (fm_RB f) 2 + i + 1))), (1, .int (fm_bI (fm_all (i + 1) (fun k => fm_tag1 (fm_RB f) (fm_HF (fm_RB f) 2 + k))))), (3, .int (nI (fm_tag (fm_RB f) (fm_HF (fm_RB f) 2 + i)))), (0, .ref fa)]) hx hb d_MO_areTagsRight_92 hl (k := 3) rfl (nI_1 _) (by decide) rfl (fun ls hl => ?_)
              refine lv_goto (tgt := 8) hx hb d_MO_areTagsRight_95 (by decide) ?_
              exact ih_8 (i + 1) ls (by omega) (by omega) (lv_sub hl [3, 1, 0] rfl)
            · have c_70 : ¬ (fm_WD (fm_RB f) 8 ≤ fm_rest (fm_RB f) (fm_HF (fm_RB f) 2 + i)) := fun z => c0 ((nI_leI (a := fm_WD (fm_RB f) 8) (b := fm_rest (fm_RB f) (fm_HF (fm_RB f) 2 + i)) (by omega) (by omega)).mpr z)
              refine lv_iload_n hx hb d_MO_areTagsRight_73 rfl (lv_at hl 0 rfl) ?_
              refine lv_iconst (v := nI (2)) hx hb d_MO_areTagsRight_74 (by decide) ?_
              refine lv_icmp_ne (tgt := 86) hx hb d_MO_areTagsRight_75 (by decide) (fun c0 => ?_) (fun c0 => ?_)
              · have c_75 : ¬ (fm_tag (fm_RB f) (fm_HF (fm_RB f) 2 + i) = 2) := fun z => c0 ((nI_eq (a := fm_tag (fm_RB f) (fm_HF (fm_RB f) 2 + i)) (b := 2) (by omega) (by omega)).mpr z)
                refine lv_iconst (v := nI (1)) hx hb d_MO_areTagsRight_86 (by decide) ?_
                refine lv_goto (tgt := 91) hx hb d_MO_areTagsRight_87 (by decide) ?_
                refine fm_tw (z := (fm_bI (fm_all (i + 1) (fun k => fm_tag1 (fm_RB f) (fm_HF (fm_RB f) 2 + k))))) (by first | exact fm_stF1 c_32 | exact fm_stT c_32 (fm_tag1_t (fun h => by omega) (fun h => by omega) (fun h => by first | exact c_83 | omega)) | exact fm_stF2 (fm_tag1_f c_22 (Or.inr (Or.inr ⟨c_75, c_83⟩))) | exact fm_stF2 (fm_tag1_f c_22 (Or.inr (Or.inl ⟨c_56, c_70⟩))) | exact fm_stF2 (fm_tag1_f c_22 (Or.inl ⟨c_37, c_51⟩))) ?_
                refine lv_istore_n (lv' := [(1, .int (fm_bI (fm_all (i + 1) (fun k => fm_tag1 (fm_RB f) (fm_HF (fm_RB f) 2 + k))))), (3, .int (nI (fm_tag (fm_RB f) (fm_HF (fm_RB f) 2 + i)))), (0, .ref fa), (2, .int (nI (fm_HF (fm_RB f) 2 + i)))]) hx hb d_MO_areTagsRight_91 rfl hl (by decide) rfl (fun ls hl => ?_)
                refine lv_iinc (v := nI (fm_HF (fm_RB f) 2 + i + 1)) (lv' := [(2, .int (nI (fm_HF (fm_RB f) 2 + i + 1))), (1, .int (fm_bI (fm_all (i + 1) (fun k => fm_tag1 (fm_RB f) (fm_HF (fm_RB f) 2 + k))))), (3, .int (nI (fm_tag (fm_RB f) (fm_HF (fm_RB f) 2 + i)))), (0, .ref fa)]) hx hb d_MO_areTagsRight_92 hl (k := 3) rfl (nI_1 _) (by decide) rfl (fun ls hl => ?_)
                refine lv_goto (tgt := 8) hx hb d_MO_areTagsRight_95 (by decide) ?_
                exact ih_8 (i + 1) ls (by omega) (by omega) (lv_sub hl [3, 1, 0] rfl)
              · have c_75 : fm_tag (fm_RB f) (fm_HF (fm_RB f) 2 + i) = 2 := (nI_eq (a := fm_tag (fm_RB f) (fm_HF (fm_RB f) 2 + i)) (b := 2) (by omega) (by omega)).mp c0
                refine lv_aload_n hx hb d_MO_areTagsRight_78 rfl (lv_at hl 1 rfl) ?_
                refine lv_iload_n hx hb d_MO_areTagsRight_79 rfl (lv_at hl 3 rfl) ?_
                refine fm_cs S (c_MO_isLargerRight l dC dI fa cB f (fm_HF (fm_RB f) 2 + i) (hL) (by omega) (by omega)) rfl rfl k_MO_isLargerRight q_3_203 ⟨Nat.le_of_ble_eq_true rfl, Nat.le_of_ble_eq_true rfl⟩ (hP.sub [0] rfl) (hK.sub [0] rfl) rfl hl.1 rfl (Nat.le_of_ble_eq_true rfl) ⟨Nat.zero_le _, Nat.zero_le _⟩ d_MO_areTagsRight_80 ?_
                refine lv_if_eq (tgt := 90) hx hb d_MO_areTagsRight_83 (by decide) (fun c0 => ?_) (fun c0 => ?_)
                · have c_83 : (fm_larger (fm_RB f) (fm_HF (fm_RB f) 2 + i)) = false := fm_bI_f c0
                  refine lv_iconst (v := nI (0)) hx hb d_MO_areTagsRight_90 (by decide) ?_
                  refine fm_tw (z := (fm_bI (fm_all (i + 1) (fun k => fm_tag1 (fm_RB f) (fm_HF (fm_RB f) 2 + k))))) (by first | exact fm_stF1 c_32 | exact fm_stT c_32 (fm_tag1_t (fun h => by omega) (fun h => by omega) (fun h => by first | exact c_83 | omega)) | exact fm_stF2 (fm_tag1_f c_22 (Or.inr (Or.inr ⟨c_75, c_83⟩))) | exact fm_stF2 (fm_tag1_f c_22 (Or.inr (Or.inl ⟨c_56, c_70⟩))) | exact fm_stF2 (fm_tag1_f c_22 (Or.inl ⟨c_37, c_51⟩))) ?_
                  refine lv_istore_n (lv' := [(1, .int (fm_bI (fm_all (i + 1) (fun k => fm_tag1 (fm_RB f) (fm_HF (fm_RB f) 2 + k))))), (3, .int (nI (fm_tag (fm_RB f) (fm_HF (fm_RB f) 2 + i)))), (0, .ref fa), (2, .int (nI (fm_HF (fm_RB f) 2 + i)))]) hx hb d_MO_areTagsRight_91 rfl hl (by decide) rfl (fun ls hl => ?_)
                  refine lv_iinc (v := nI (fm_HF (fm_RB f) 2 + i + 1)) (lv' := [(2, .int (nI (fm_HF (fm_RB f) 2 + i + 1))), (1, .int (fm_bI (fm_all (i + 1) (fun k => fm_tag1 (fm_RB f) (fm_HF (fm_RB f) 2 + k))))), (3, .int (nI (fm_tag (fm_RB f) (fm_HF (fm_RB f) 2 + i)))), (0, .ref fa)]) hx hb d_MO_areTagsRight_92 hl (k := 3) rfl (nI_1 _) (by decide) rfl (fun ls hl => ?_)
                  refine lv_goto (tgt := 8) hx hb d_MO_areTagsRight_95 (by decide) ?_
                  exact ih_8 (i + 1) ls (by omega) (by omega) (lv_sub hl [3, 1, 0] rfl)
                · have c_83 : (fm_larger (fm_RB f) (fm_HF (fm_RB f) 2 + i)) = true := fm_bI_t c0
                  refine lv_iconst (v := nI (1)) hx hb d_MO_areTagsRight_86 (by decide) ?_
                  refine lv_goto (tgt := 91) hx hb d_MO_areTagsRight_87 (by decide) ?_
                  refine fm_tw (z := (fm_bI (fm_all (i + 1) (fun k => fm_tag1 (fm_RB f) (fm_HF (fm_RB f) 2 + k))))) (by first | exact fm_stF1 c_32 | exact fm_stT c_32 (fm_tag1_t (fun h => by omega) (fun h => by omega) (fun h => by first | exact c_83 | omega)) | exact fm_stF2 (fm_tag1_f c_22 (Or.inr (Or.inr ⟨c_75, c_83⟩))) | exact fm_stF2 (fm_tag1_f c_22 (Or.inr (Or.inl ⟨c_56, c_70⟩))) | exact fm_stF2 (fm_tag1_f c_22 (Or.inl ⟨c_37, c_51⟩))) ?_
                  refine lv_istore_n (lv' := [(1, .int (fm_bI (fm_all (i + 1) (fun k => fm_tag1 (fm_RB f) (fm_HF (fm_RB f) 2 + k))))), (3, .int (nI (fm_tag (fm_RB f) (fm_HF (fm_RB f) 2 + i)))), (0, .ref fa), (2, .int (nI (fm_HF (fm_RB f) 2 + i)))]) hx hb d_MO_areTagsRight_91 rfl hl (by decide) rfl (fun ls hl => ?_)
                  refine lv_iinc (v := nI (fm_HF (fm_RB f) 2 + i + 1)) (lv' := [(2, .int (nI (fm_HF (fm_RB f) 2 + i + 1))), (1, .int (fm_bI (fm_all (i + 1) (fun k => fm_tag1 (fm_RB f) (fm_HF (fm_RB f) 2 + k))))), (3, .int (nI (fm_tag (fm_RB f) (fm_HF (fm_RB f) 2 + i)))), (0, .ref fa)]) hx hb d_MO_areTagsRight_92 hl (k := 3) rfl (nI_1 _) (by decide) rfl (fun ls hl => ?_)
                  refine lv_goto (tgt := 8) hx hb d_MO_areTagsRight_95 (by decide) ?_
                  exact ih_8 (i + 1) ls (by omega) (by omega) (lv_sub hl [3, 1, 0] rfl)
        · have c_37 : fm_tag (fm_RB f) (fm_HF (fm_RB f) 2 + i) = 1 := (nI_eq (a := fm_tag (fm_RB f) (fm_HF (fm_RB f) 2 + i)) (b := 1) (by omega) (by omega)).mp c0
          refine lv_aload_n hx hb d_MO_areTagsRight_40 rfl (lv_at hl 1 rfl) ?_
          refine lv_iload_n hx hb d_MO_areTagsRight_41 rfl (lv_at hl 3 rfl) ?_
          refine fm_cs S (c_MO_rest l dC dI fa cB f (fm_HF (fm_RB f) 2 + i) (hL) (by omega) (by omega)) rfl rfl k_MO_rest q_3_200 ⟨Nat.le_of_ble_eq_true rfl, Nat.le_of_ble_eq_true rfl⟩ (hP.sub [0] rfl) (hK.sub [0] rfl) rfl hl.1 rfl (Nat.le_of_ble_eq_true rfl) ⟨Nat.zero_le _, Nat.zero_le _⟩ d_MO_areTagsRight_42 ?_
          have f0_42 := fm_rest_lt (fm_RB_lt f) (fm_HF (fm_RB f) 2 + i)
          refine lv_aload_n hx hb d_MO_areTagsRight_45 rfl (lv_at hl 1 rfl) ?_
          refine lv_bipush (v := nI (6)) hx hb d_MO_areTagsRight_46 (by decide) ?_
          refine fm_cs S (c_MO_words l dC dI fa cB f 6 (by omega) (fun _ => hq)) rfl rfl k_MO_words q_3_175 ⟨Nat.le_of_ble_eq_true rfl, Nat.le_of_ble_eq_true rfl⟩ (hP.sub [0] rfl) (hK.sub [0] rfl) rfl hl.1 rfl (Nat.le_of_ble_eq_true rfl) ⟨Nat.zero_le _, Nat.zero_le _⟩ d_MO_areTagsRight_48 ?_
          have f0_48 := fm_WD_le (fm_RB_lt f) 6
          refine lv_icmp_ge (tgt := 90) hx hb d_MO_areTagsRight_51 (by decide) (fun c0 => ?_) (fun c0 => ?_)
          · have c_51 : fm_WD (fm_RB f) 6 ≤ fm_rest (fm_RB f) (fm_HF (fm_RB f) 2 + i) := (nI_leI (a := fm_WD (fm_RB f) 6) (b := fm_rest (fm_RB f) (fm_HF (fm_RB f) 2 + i)) (by omega) (by omega)).mp c0
            refine lv_iconst (v := nI (0)) hx hb d_MO_areTagsRight_90 (by decide) ?_
            refine fm_tw (z := (fm_bI (fm_all (i + 1) (fun k => fm_tag1 (fm_RB f) (fm_HF (fm_RB f) 2 + k))))) (by first | exact fm_stF1 c_32 | exact fm_stT c_32 (fm_tag1_t (fun h => by omega) (fun h => by omega) (fun h => by first | exact c_83 | omega)) | exact fm_stF2 (fm_tag1_f c_22 (Or.inr (Or.inr ⟨c_75, c_83⟩))) | exact fm_stF2 (fm_tag1_f c_22 (Or.inr (Or.inl ⟨c_56, c_70⟩))) | exact fm_stF2 (fm_tag1_f c_22 (Or.inl ⟨c_37, c_51⟩))) ?_
            refine lv_istore_n (lv' := [(1, .int (fm_bI (fm_all (i + 1) (fun k => fm_tag1 (fm_RB f) (fm_HF (fm_RB f) 2 + k))))), (3, .int (nI (fm_tag (fm_RB f) (fm_HF (fm_RB f) 2 + i)))), (0, .ref fa), (2, .int (nI (fm_HF (fm_RB f) 2 + i)))]) hx hb d_MO_areTagsRight_91 rfl hl (by decide) rfl (fun ls hl => ?_)
            refine lv_iinc (v := nI (fm_HF (fm_RB f) 2 + i + 1)) (lv' := [(2, .int (nI (fm_HF (fm_RB f) 2 + i + 1))), (1, .int (fm_bI (fm_all (i + 1) (fun k => fm_tag1 (fm_RB f) (fm_HF (fm_RB f) 2 + k))))), (3, .int (nI (fm_tag (fm_RB f) (fm_HF (fm_RB f) 2 + i)))), (0, .ref fa)]) hx hb d_MO_areTagsRight_92 hl (k := 3) rfl (nI_1 _) (by decide) rfl (fun ls hl => ?_)
            refine lv_goto (tgt := 8) hx hb d_MO_areTagsRight_95 (by decide) ?_
            exact ih_8 (i + 1) ls (by omega) (by omega) (lv_sub hl [3, 1, 0] rfl)
          · have c_51 : ¬ (fm_WD (fm_RB f) 6 ≤ fm_rest (fm_RB f) (fm_HF (fm_RB f) 2 + i)) := fun z => c0 ((nI_leI (a := fm_WD (fm_RB f) 6) (b := fm_rest (fm_RB f) (fm_HF (fm_RB f) 2 + i)) (by omega) (by omega)).mpr z)
            refine lv_iload_n hx hb d_MO_areTagsRight_54 rfl (lv_at hl 0 rfl) ?_
            refine lv_iconst (v := nI (3)) hx hb d_MO_areTagsRight_55 (by decide) ?_
            refine lv_icmp_ne (tgt := 73) hx hb d_MO_areTagsRight_56 (by decide) (fun c0 => ?_) (fun c0 => ?_)
            · have c_56 : ¬ (fm_tag (fm_RB f) (fm_HF (fm_RB f) 2 + i) = 3) := fun z => c0 ((nI_eq (a := fm_tag (fm_RB f) (fm_HF (fm_RB f) 2 + i)) (b := 3) (by omega) (by omega)).mpr z)
              refine lv_iload_n hx hb d_MO_areTagsRight_73 rfl (lv_at hl 0 rfl) ?_
              refine lv_iconst (v := nI (2)) hx hb d_MO_areTagsRight_74 (by decide) ?_
              refine lv_icmp_ne (tgt := 86) hx hb d_MO_areTagsRight_75 (by decide) (fun c0 => ?_) (fun c0 => ?_)
              · have c_75 : ¬ (fm_tag (fm_RB f) (fm_HF (fm_RB f) 2 + i) = 2) := fun z => c0 ((nI_eq (a := fm_tag (fm_RB f) (fm_HF (fm_RB f) 2 + i)) (b := 2) (by omega) (by omega)).mpr z)
                refine lv_iconst (v := nI (1)) hx hb d_MO_areTagsRight_86 (by decide) ?_
                refine lv_goto (tgt := 91) hx hb d_MO_areTagsRight_87 (by decide) ?_
                refine fm_tw (z := (fm_bI (fm_all (i + 1) (fun k => fm_tag1 (fm_RB f) (fm_HF (fm_RB f) 2 + k))))) (by first | exact fm_stF1 c_32 | exact fm_stT c_32 (fm_tag1_t (fun h => by omega) (fun h => by omega) (fun h => by first | exact c_83 | omega)) | exact fm_stF2 (fm_tag1_f c_22 (Or.inr (Or.inr ⟨c_75, c_83⟩))) | exact fm_stF2 (fm_tag1_f c_22 (Or.inr (Or.inl ⟨c_56, c_70⟩))) | exact fm_stF2 (fm_tag1_f c_22 (Or.inl ⟨c_37, c_51⟩))) ?_
                refine lv_istore_n (lv' := [(1, .int (fm_bI (fm_all (i + 1) (fun k => fm_tag1 (fm_RB f) (fm_HF (fm_RB f) 2 + k))))), (3, .int (nI (fm_tag (fm_RB f) (fm_HF (fm_RB f) 2 + i)))), (0, .ref fa), (2, .int (nI (fm_HF (fm_RB f) 2 + i)))]) hx hb d_MO_areTagsRight_91 rfl hl (by decide) rfl (fun ls hl => ?_)
                refine lv_iinc (v := nI (fm_HF (fm_RB f) 2 + i + 1)) (lv' := [(2, .int (nI (fm_HF (fm_RB f) 2 + i + 1))), (1, .int (fm_bI (fm_all (i + 1) (fun k => fm_tag1 (fm_RB f) (fm_HF (fm_RB f) 2 + k))))), (3, .int (nI (fm_tag (fm_RB f) (fm_HF (fm_RB f) 2 + i)))), (0, .ref fa)]) hx hb d_MO_areTagsRight_92 hl (k := 3) rfl (nI_1 _) (by decide) rfl (fun ls hl => ?_)
                refine lv_goto (tgt := 8) hx hb d_MO_areTagsRight_95 (by decide) ?_
                exact ih_8 (i + 1) ls (by omega) (by omega) (lv_sub hl [3, 1, 0] rfl)
              · have c_75 : fm_tag (fm_RB f) (fm_HF (fm_RB f) 2 + i) = 2 := (nI_eq (a := fm_tag (fm_RB f) (fm_HF (fm_RB f) 2 + i)) (b := 2) (by omega) (by omega)).mp c0
                refine lv_aload_n hx hb d_MO_areTagsRight_78 rfl (lv_at hl 1 rfl) ?_
                refine lv_iload_n hx hb d_MO_areTagsRight_79 rfl (lv_at hl 3 rfl) ?_
                refine fm_cs S (c_MO_isLargerRight l dC dI fa cB f (fm_HF (fm_RB f) 2 + i) (hL) (by omega) (by omega)) rfl rfl k_MO_isLargerRight q_3_203 ⟨Nat.le_of_ble_eq_true rfl, Nat.le_of_ble_eq_true rfl⟩ (hP.sub [0] rfl) (hK.sub [0] rfl) rfl hl.1 rfl (Nat.le_of_ble_eq_true rfl) ⟨Nat.zero_le _, Nat.zero_le _⟩ d_MO_areTagsRight_80 ?_
                refine lv_if_eq (tgt := 90) hx hb d_MO_areTagsRight_83 (by decide) (fun c0 => ?_) (fun c0 => ?_)
                · have c_83 : (fm_larger (fm_RB f) (fm_HF (fm_RB f) 2 + i)) = false := fm_bI_f c0
                  refine lv_iconst (v := nI (0)) hx hb d_MO_areTagsRight_90 (by decide) ?_
                  refine fm_tw (z := (fm_bI (fm_all (i + 1) (fun k => fm_tag1 (fm_RB f) (fm_HF (fm_RB f) 2 + k))))) (by first | exact fm_stF1 c_32 | exact fm_stT c_32 (fm_tag1_t (fun h => by omega) (fun h => by omega) (fun h => by first | exact c_83 | omega)) | exact fm_stF2 (fm_tag1_f c_22 (Or.inr (Or.inr ⟨c_75, c_83⟩))) | exact fm_stF2 (fm_tag1_f c_22 (Or.inr (Or.inl ⟨c_56, c_70⟩))) | exact fm_stF2 (fm_tag1_f c_22 (Or.inl ⟨c_37, c_51⟩))) ?_
                  refine lv_istore_n (lv' := [(1, .int (fm_bI (fm_all (i + 1) (fun k => fm_tag1 (fm_RB f) (fm_HF (fm_RB f) 2 + k))))), (3, .int (nI (fm_tag (fm_RB f) (fm_HF (fm_RB f) 2 + i)))), (0, .ref fa), (2, .int (nI (fm_HF (fm_RB f) 2 + i)))]) hx hb d_MO_areTagsRight_91 rfl hl (by decide) rfl (fun ls hl => ?_)
                  refine lv_iinc (v := nI (fm_HF (fm_RB f) 2 + i + 1)) (lv' := [(2, .int (nI (fm_HF (fm_RB f) 2 + i + 1))), (1, .int (fm_bI (fm_all (i + 1) (fun k => fm_tag1 (fm_RB f) (fm_HF (fm_RB f) 2 + k))))), (3, .int (nI (fm_tag (fm_RB f) (fm_HF (fm_RB f) 2 + i)))), (0, .ref fa)]) hx hb d_MO_areTagsRight_92 hl (k := 3) rfl (nI_1 _) (by decide) rfl (fun ls hl => ?_)
                  refine lv_goto (tgt := 8) hx hb d_MO_areTagsRight_95 (by decide) ?_
                  exact ih_8 (i + 1) ls (by omega) (by omega) (lv_sub hl [3, 1, 0] rfl)
                · have c_83 : (fm_larger (fm_RB f) (fm_HF (fm_RB f) 2 + i)) = true := fm_bI_t c0
                  refine lv_iconst (v := nI (1)) hx hb d_MO_areTagsRight_86 (by decide) ?_
                  refine lv_goto (tgt := 91) hx hb d_MO_areTagsRight_87 (by decide) ?_
                  refine fm_tw (z := (fm_bI (fm_all (i + 1) (fun k => fm_tag1 (fm_RB f) (fm_HF (fm_RB f) 2 + k))))) (by first | exact fm_stF1 c_32 | exact fm_stT c_32 (fm_tag1_t (fun h => by omega) (fun h => by omega) (fun h => by first | exact c_83 | omega)) | exact fm_stF2 (fm_tag1_f c_22 (Or.inr (Or.inr ⟨c_75, c_83⟩))) | exact fm_stF2 (fm_tag1_f c_22 (Or.inr (Or.inl ⟨c_56, c_70⟩))) | exact fm_stF2 (fm_tag1_f c_22 (Or.inl ⟨c_37, c_51⟩))) ?_
                  refine lv_istore_n (lv' := [(1, .int (fm_bI (fm_all (i + 1) (fun k => fm_tag1 (fm_RB f) (fm_HF (fm_RB f) 2 + k))))), (3, .int (nI (fm_tag (fm_RB f) (fm_HF (fm_RB f) 2 + i)))), (0, .ref fa), (2, .int (nI (fm_HF (fm_RB f) 2 + i)))]) hx hb d_MO_areTagsRight_91 rfl hl (by decide) rfl (fun ls hl => ?_)
                  refine lv_iinc (v := nI (fm_HF (fm_RB f) 2 + i + 1)) (lv' := [(2, .int (nI (fm_HF (fm_RB f) 2 + i + 1))), (1, .int (fm_bI (fm_all (i + 1) (fun k => fm_tag1 (fm_RB f) (fm_HF (fm_RB f) 2 + k))))), (3, .int (nI (fm_tag (fm_RB f) (fm_HF (fm_RB f) 2 + i)))), (0, .ref fa)]) hx hb d_MO_areTagsRight_92 hl (k := 3) rfl (nI_1 _) (by decide) rfl (fun ls hl => ?_)
                  refine lv_goto (tgt := 8) hx hb d_MO_areTagsRight_95 (by decide) ?_
                  exact ih_8 (i + 1) ls (by omega) (by omega) (lv_sub hl [3, 1, 0] rfl)
            · have c_56 : fm_tag (fm_RB f) (fm_HF (fm_RB f) 2 + i) = 3 := (nI_eq (a := fm_tag (fm_RB f) (fm_HF (fm_RB f) 2 + i)) (b := 3) (by omega) (by omega)).mp c0
              refine lv_aload_n hx hb d_MO_areTagsRight_59 rfl (lv_at hl 1 rfl) ?_
              refine lv_iload_n hx hb d_MO_areTagsRight_60 rfl (lv_at hl 3 rfl) ?_
              refine fm_cs S (c_MO_rest l dC dI fa cB f (fm_HF (fm_RB f) 2 + i) (hL) (by omega) (by omega)) rfl rfl k_MO_rest q_3_200 ⟨Nat.le_of_ble_eq_true rfl, Nat.le_of_ble_eq_true rfl⟩ (hP.sub [0] rfl) (hK.sub [0] rfl) rfl hl.1 rfl (Nat.le_of_ble_eq_true rfl) ⟨Nat.zero_le _, Nat.zero_le _⟩ d_MO_areTagsRight_61 ?_
              have f0_61 := fm_rest_lt (fm_RB_lt f) (fm_HF (fm_RB f) 2 + i)
              refine lv_aload_n hx hb d_MO_areTagsRight_64 rfl (lv_at hl 1 rfl) ?_
              refine lv_bipush (v := nI (8)) hx hb d_MO_areTagsRight_65 (by decide) ?_
              refine fm_cs S (c_MO_words l dC dI fa cB f 8 (by omega) (fun _ => hq)) rfl rfl k_MO_words q_3_175 ⟨Nat.le_of_ble_eq_true rfl, Nat.le_of_ble_eq_true rfl⟩ (hP.sub [0] rfl) (hK.sub [0] rfl) rfl hl.1 rfl (Nat.le_of_ble_eq_true rfl) ⟨Nat.zero_le _, Nat.zero_le _⟩ d_MO_areTagsRight_67 ?_
              have f0_67 := fm_WD_le (fm_RB_lt f) 8
              refine lv_icmp_ge (tgt := 90) hx hb d_MO_areTagsRight_70 (by decide) (fun c0 => ?_) (fun c0 => ?_)
              · have c_70 : fm_WD (fm_RB f) 8 ≤ fm_rest (fm_RB f) (fm_HF (fm_RB f) 2 + i) := (nI_leI (a := fm_WD (fm_RB f) 8) (b := fm_rest (fm_RB f) (fm_HF (fm_RB f) 2 + i)) (by omega) (by omega)).mp c0
                refine lv_iconst (v := nI (0)) hx hb d_MO_areTagsRight_90 (by decide) ?_
                refine fm_tw (z := (fm_bI (fm_all (i + 1) (fun k => fm_tag1 (fm_RB f) (fm_HF (fm_RB f) 2 + k))))) (by first | exact fm_stF1 c_32 | exact fm_stT c_32 (fm_tag1_t (fun h => by omega) (fun h => by omega) (fun h => by first | exact c_83 | omega)) | exact fm_stF2 (fm_tag1_f c_22 (Or.inr (Or.inr ⟨c_75, c_83⟩))) | exact fm_stF2 (fm_tag1_f c_22 (Or.inr (Or.inl ⟨c_56, c_70⟩))) | exact fm_stF2 (fm_tag1_f c_22 (Or.inl ⟨c_37, c_51⟩))) ?_
                refine lv_istore_n (lv' := [(1, .int (fm_bI (fm_all (i + 1) (fun k => fm_tag1 (fm_RB f) (fm_HF (fm_RB f) 2 + k))))), (3, .int (nI (fm_tag (fm_RB f) (fm_HF (fm_RB f) 2 + i)))), (0, .ref fa), (2, .int (nI (fm_HF (fm_RB f) 2 + i)))]) hx hb d_MO_areTagsRight_91 rfl hl (by decide) rfl (fun ls hl => ?_)
                refine lv_iinc (v := nI (fm_HF (fm_RB f) 2 + i + 1)) (lv' := [(2, .int (nI (fm_HF (fm_RB f) 2 + i + 1))), (1, .int (fm_bI (fm_all (i + 1) (fun k => fm_tag1 (fm_RB f) (fm_HF (fm_RB f) 2 + k))))), (3, .int (nI (fm_tag (fm_RB f) (fm_HF (fm_RB f) 2 + i)))), (0, .ref fa)]) hx hb d_MO_areTagsRight_92 hl (k := 3) rfl (nI_1 _) (by decide) rfl (fun ls hl => ?_)
                refine lv_goto (tgt := 8) hx hb d_MO_areTagsRight_95 (by decide) ?_
                exact ih_8 (i + 1) ls (by omega) (by omega) (lv_sub hl [3, 1, 0] rfl)
              · have c_70 : ¬ (fm_WD (fm_RB f) 8 ≤ fm_rest (fm_RB f) (fm_HF (fm_RB f) 2 + i)) := fun z => c0 ((nI_leI (a := fm_WD (fm_RB f) 8) (b := fm_rest (fm_RB f) (fm_HF (fm_RB f) 2 + i)) (by omega) (by omega)).mpr z)
                refine lv_iload_n hx hb d_MO_areTagsRight_73 rfl (lv_at hl 0 rfl) ?_
                refine lv_iconst (v := nI (2)) hx hb d_MO_areTagsRight_74 (by decide) ?_
                refine lv_icmp_ne (tgt := 86) hx hb d_MO_areTagsRight_75 (by decide) (fun c0 => ?_) (fun c0 => ?_)
                · have c_75 : ¬ (fm_tag (fm_RB f) (fm_HF (fm_RB f) 2 + i) = 2) := fun z => c0 ((nI_eq (a := fm_tag (fm_RB f) (fm_HF (fm_RB f) 2 + i)) (b := 2) (by omega) (by omega)).mpr z)
                  refine lv_iconst (v := nI (1)) hx hb d_MO_areTagsRight_86 (by decide) ?_
                  refine lv_goto (tgt := 91) hx hb d_MO_areTagsRight_87 (by decide) ?_
                  refine fm_tw (z := (fm_bI (fm_all (i + 1) (fun k => fm_tag1 (fm_RB f) (fm_HF (fm_RB f) 2 + k))))) (by first | exact fm_stF1 c_32 | exact fm_stT c_32 (fm_tag1_t (fun h => by omega) (fun h => by omega) (fun h => by first | exact c_83 | omega)) | exact fm_stF2 (fm_tag1_f c_22 (Or.inr (Or.inr ⟨c_75, c_83⟩))) | exact fm_stF2 (fm_tag1_f c_22 (Or.inr (Or.inl ⟨c_56, c_70⟩))) | exact fm_stF2 (fm_tag1_f c_22 (Or.inl ⟨c_37, c_51⟩))) ?_
                  refine lv_istore_n (lv' := [(1, .int (fm_bI (fm_all (i + 1) (fun k => fm_tag1 (fm_RB f) (fm_HF (fm_RB f) 2 + k))))), (3, .int (nI (fm_tag (fm_RB f) (fm_HF (fm_RB f) 2 + i)))), (0, .ref fa), (2, .int (nI (fm_HF (fm_RB f) 2 + i)))]) hx hb d_MO_areTagsRight_91 rfl hl (by decide) rfl (fun ls hl => ?_)
                  refine lv_iinc (v := nI (fm_HF (fm_RB f) 2 + i + 1)) (lv' := [(2, .int (nI (fm_HF (fm_RB f) 2 + i + 1))), (1, .int (fm_bI (fm_all (i + 1) (fun k => fm_tag1 (fm_RB f) (fm_HF (fm_RB f) 2 + k))))), (3, .int (nI (fm_tag (fm_RB f) (fm_HF (fm_RB f) 2 + i)))), (0, .ref fa)]) hx hb d_MO_areTagsRight_92 hl (k := 3) rfl (nI_1 _) (by decide) rfl (fun ls hl => ?_)
                  refine lv_goto (tgt := 8) hx hb d_MO_areTagsRight_95 (by decide) ?_
                  exact ih_8 (i + 1) ls (by omega) (by omega) (lv_sub hl [3, 1, 0] rfl)
                · have c_75 : fm_tag (fm_RB f) (fm_HF (fm_RB f) 2 + i) = 2 := (nI_eq (a := fm_tag (fm_RB f) (fm_HF (fm_RB f) 2 + i)) (b := 2) (by omega) (by omega)).mp c0
                  refine lv_aload_n hx hb d_MO_areTagsRight_78 rfl (lv_at hl 1 rfl) ?_
                  refine lv_iload_n hx hb d_MO_areTagsRight_79 rfl (lv_at hl 3 rfl) ?_
                  refine fm_cs S (c_MO_isLargerRight l dC dI fa cB f (fm_HF (fm_RB f) 2 + i) (hL) (by omega) (by omega)) rfl rfl k_MO_isLargerRight q_3_203 ⟨Nat.le_of_ble_eq_true rfl, Nat.le_of_ble_eq_true rfl⟩ (hP.sub [0] rfl) (hK.sub [0] rfl) rfl hl.1 rfl (Nat.le_of_ble_eq_true rfl) ⟨Nat.zero_le _, Nat.zero_le _⟩ d_MO_areTagsRight_80 ?_
                  refine lv_if_eq (tgt := 90) hx hb d_MO_areTagsRight_83 (by decide) (fun c0 => ?_) (fun c0 => ?_)
                  · have c_83 : (fm_larger (fm_RB f) (fm_HF (fm_RB f) 2 + i)) = false := fm_bI_f c0
                    refine lv_iconst (v := nI (0)) hx hb d_MO_areTagsRight_90 (by decide) ?_
                    refine fm_tw (z := (fm_bI (fm_all (i + 1) (fun k => fm_tag1 (fm_RB f) (fm_HF (fm_RB f) 2 + k))))) (by first | exact fm_stF1 c_32 | exact fm_stT c_32 (fm_tag1_t (fun h => by omega) (fun h => by omega) (fun h => by first | exact c_83 | omega)) | exact fm_stF2 (fm_tag1_f c_22 (Or.inr (Or.inr ⟨c_75, c_83⟩))) | exact fm_stF2 (fm_tag1_f c_22 (Or.inr (Or.inl ⟨c_56, c_70⟩))) | exact fm_stF2 (fm_tag1_f c_22 (Or.inl ⟨c_37, c_51⟩))) ?_
                    refine lv_istore_n (lv' := [(1, .int (fm_bI (fm_all (i + 1) (fun k => fm_tag1 (fm_RB f) (fm_HF (fm_RB f) 2 + k))))), (3, .int (nI (fm_tag (fm_RB f) (fm_HF (fm_RB f) 2 + i)))), (0, .ref fa), (2, .int (nI (fm_HF (fm_RB f) 2 + i)))]) hx hb d_MO_areTagsRight_91 rfl hl (by decide) rfl (fun ls hl => ?_)
                    refine lv_iinc (v := nI (fm_HF (fm_RB f) 2 + i + 1)) (lv' := [(2, .int (nI (fm_HF (fm_RB f) 2 + i + 1))), (1, .int (fm_bI (fm_all (i + 1) (fun k => fm_tag1 (fm_RB f) (fm_HF (fm_RB f) 2 + k))))), (3, .int (nI (fm_tag (fm_RB f) (fm_HF (fm_RB f) 2 + i)))), (0, .ref fa)]) hx hb d_MO_areTagsRight_92 hl (k := 3) rfl (nI_1 _) (by decide) rfl (fun ls hl => ?_)
                    refine lv_goto (tgt := 8) hx hb d_MO_areTagsRight_95 (by decide) ?_
                    exact ih_8 (i + 1) ls (by omega) (by omega) (lv_sub hl [3, 1, 0] rfl)
                  · have c_83 : (fm_larger (fm_RB f) (fm_HF (fm_RB f) 2 + i)) = true := fm_bI_t c0
                    refine lv_iconst (v := nI (1)) hx hb d_MO_areTagsRight_86 (by decide) ?_
                    refine lv_goto (tgt := 91) hx hb d_MO_areTagsRight_87 (by decide) ?_
                    refine fm_tw (z := (fm_bI (fm_all (i + 1) (fun k => fm_tag1 (fm_RB f) (fm_HF (fm_RB f) 2 + k))))) (by first | exact fm_stF1 c_32 | exact fm_stT c_32 (fm_tag1_t (fun h => by omega) (fun h => by omega) (fun h => by first | exact c_83 | omega)) | exact fm_stF2 (fm_tag1_f c_22 (Or.inr (Or.inr ⟨c_75, c_83⟩))) | exact fm_stF2 (fm_tag1_f c_22 (Or.inr (Or.inl ⟨c_56, c_70⟩))) | exact fm_stF2 (fm_tag1_f c_22 (Or.inl ⟨c_37, c_51⟩))) ?_
                    refine lv_istore_n (lv' := [(1, .int (fm_bI (fm_all (i + 1) (fun k => fm_tag1 (fm_RB f) (fm_HF (fm_RB f) 2 + k))))), (3, .int (nI (fm_tag (fm_RB f) (fm_HF (fm_RB f) 2 + i)))), (0, .ref fa), (2, .int (nI (fm_HF (fm_RB f) 2 + i)))]) hx hb d_MO_areTagsRight_91 rfl hl (by decide) rfl (fun ls hl => ?_)
                    refine lv_iinc (v := nI (fm_HF (fm_RB f) 2 + i + 1)) (lv' := [(2, .int (nI (fm_HF (fm_RB f) 2 + i + 1))), (1, .int (fm_bI (fm_all (i + 1) (fun k => fm_tag1 (fm_RB f) (fm_HF (fm_RB f) 2 + k))))), (3, .int (nI (fm_tag (fm_RB f) (fm_HF (fm_RB f) 2 + i)))), (0, .ref fa)]) hx hb d_MO_areTagsRight_92 hl (k := 3) rfl (nI_1 _) (by decide) rfl (fun ls hl => ?_)
                    refine lv_goto (tgt := 8) hx hb d_MO_areTagsRight_95 (by decide) ?_
                    exact ih_8 (i + 1) ls (by omega) (by omega) (lv_sub hl [3, 1, 0] rfl)
