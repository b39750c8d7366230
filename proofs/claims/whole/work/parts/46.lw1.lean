def w_LW_load : List Cond := .codeWith y_LW_load b_LW_load 4 (some .int) [(0, 9, 12, 13)] :: fm_T
theorem k_LW_load : fm_SWok y_LW_load b_LW_load 4 (some .int) [(0, 9, 12, 13)] 3 := ⟨q_1_193, q_1_0, q_1_194, ⟨by decide +kernel, by decide +kernel, by decide +kernel⟩⟩
def w_LW_about : List Cond := .codeWith y_LW_about b_LW_about 4 (some .int) [(0, 9, 12, 18), (0, 9, 15, 20)] :: fm_T
theorem k_LW_about : fm_SWok y_LW_about b_LW_about 4 (some .int) [(0, 9, 12, 18), (0, 9, 15, 20)] 3 := ⟨q_2_144, q_1_0, q_2_145, ⟨by decide +kernel, by decide +kernel, by decide +kernel⟩⟩
def w_LW_of : List Cond := .codeWith y_LW_of b_LW_of 5 (some .int) [(0, 10, 13, 18), (0, 10, 17, 20)] :: fm_T
theorem k_LW_of : fm_SWok y_LW_of b_LW_of 5 (some .int) [(0, 10, 13, 18), (0, 10, 17, 20)] 4 := ⟨q_2_197, q_1_0, q_2_198, ⟨by decide +kernel, by decide +kernel, by decide +kernel⟩⟩
def w_LW_part : List Cond := .codeWith y_LW_part b_LW_part 5 (some .int) [(0, 10, 13, 18), (0, 10, 17, 20)] :: fm_T
theorem k_LW_part : fm_SWok y_LW_part b_LW_part 5 (some .int) [(0, 10, 13, 18), (0, 10, 17, 20)] 4 := ⟨q_2_228, q_1_0, q_2_229, ⟨by decide +kernel, by decide +kernel, by decide +kernel⟩⟩
def w_LW_parameter : List Cond := .codeWith y_LW_parameter b_LW_parameter 4 (some .int) [(0, 9, 12, 18), (0, 9, 15, 20)] :: fm_T
theorem k_LW_parameter : fm_SWok y_LW_parameter b_LW_parameter 4 (some .int) [(0, 9, 12, 18), (0, 9, 15, 20)] 3 := ⟨q_2_238, q_1_0, q_2_239, ⟨by decide +kernel, by decide +kernel, by decide +kernel⟩⟩
def w_LW_ask : List Cond := .codeWith y_LW_ask b_LW_ask 5 (some .int) [(0, 10, 13, 18), (0, 10, 17, 20)] :: fm_T
theorem k_LW_ask : fm_SWok y_LW_ask b_LW_ask 5 (some .int) [(0, 10, 13, 18), (0, 10, 17, 20)] 4 := ⟨q_3_7, q_1_0, q_3_8, ⟨by decide +kernel, by decide +kernel, by decide +kernel⟩⟩
def w_LW_set : List Cond := .codeWith y_LW_set b_LW_set 3 (some .int) [(0, 8, 11, 18)] :: fm_T
theorem k_LW_set : fm_SWok y_LW_set b_LW_set 3 (some .int) [(0, 8, 11, 18)] 2 := ⟨q_3_34, q_1_0, q_3_35, ⟨by decide +kernel, by decide +kernel, by decide +kernel⟩⟩
def w_LW_isKern : List Cond := .codeWith y_LW_isKern b_LW_isKern 4 (some .int) [(0, 16, 19, 20)] :: fm_T
theorem k_LW_isKern : fm_SWok y_LW_isKern b_LW_isKern 4 (some .int) [(0, 16, 19, 20)] 3 := ⟨q_3_87, q_1_0, q_3_88, ⟨by decide +kernel, by decide +kernel, by decide +kernel⟩⟩
def w_LW_item : List Cond := .codeWith y_LW_item b_LW_item 4 (some .int) [(0, 9, 12, 20)] :: fm_T
theorem k_LW_item : fm_SWok y_LW_item b_LW_item 4 (some .int) [(0, 9, 12, 20)] 3 := ⟨q_3_100, q_1_0, q_3_101, ⟨by decide +kernel, by decide +kernel, by decide +kernel⟩⟩
def fm_bL (b : Bool) : Int64 := if b then 1 else 0
theorem d_LW_about_0 : decode b_LW_about 0 = .ok (.aload_n 2, 1) := by decide +kernel
theorem d_LW_about_1 : decode b_LW_about 1 = .ok (.iconst 0, 1) := by decide +kernel
theorem d_LW_about_2 : decode b_LW_about 2 = .ok (.aload_n 0, 1) := by decide +kernel
theorem d_LW_about_3 : decode b_LW_about 3 = .ok (.iload_n 1, 1) := by decide +kernel
theorem d_LW_about_4 : decode b_LW_about 4 = .ok (.invokevirtual 15, 3) := by decide +kernel
theorem d_LW_about_7 : decode b_LW_about 7 = .ok (.i2l, 1) := by decide +kernel
theorem d_LW_about_8 : decode b_LW_about 8 = .ok (.lastore, 1) := by decide +kernel
theorem d_LW_about_9 : decode b_LW_about 9 = .ok (.goto 9, 3) := by decide +kernel
theorem d_LW_about_12 : decode b_LW_about 12 = .ok (.astore_n 3, 1) := by decide +kernel
theorem d_LW_about_13 : decode b_LW_about 13 = .ok (.iconst 1, 1) := by decide +kernel
theorem d_LW_about_14 : decode b_LW_about 14 = .ok (.ireturn, 1) := by decide +kernel
theorem d_LW_about_15 : decode b_LW_about 15 = .ok (.astore_n 3, 1) := by decide +kernel
theorem d_LW_about_16 : decode b_LW_about 16 = .ok (.iconst 2, 1) := by decide +kernel
theorem d_LW_about_17 : decode b_LW_about 17 = .ok (.ireturn, 1) := by decide +kernel
theorem d_LW_about_18 : decode b_LW_about 18 = .ok (.iconst 0, 1) := by decide +kernel
theorem d_LW_about_19 : decode b_LW_about 19 = .ok (.ireturn, 1) := by decide +kernel
set_option maxHeartbeats 4000000 in
set_option maxRecDepth 100000 in
theorem c_LW_aboutY (l : Launch) (dC : Nat → ClassId) (dI : Nat → Nat → Nat) (h : Nat) (bf : Nat) (li : Nat) (ra : Nat) (rl : Int32) (o : Nat) (sp : Nat) (wa : Nat) (sa : Nat) (la : Nat) (s0 : Nat) (cI : ClassId) (B : Nat → Nat) (w : Nat → Int32) (st : Nat → Int32) (ln : Nat → Int32) (v : Nat) (ou : Nat) (cL : ClassId) (ov : Nat → Int64) (hF : fm_FO B w st ln) (hV : fm_V B) (hv : v < 7) : fm_MW l (dC, dI) y_LW_about w_LW_about ({ frames := 3, cells := 0, slots := 0, locals := 65 }) [.ref h, .int (nI (v)), .ref ou] [(h, .inr (3, [.ref bf, .ref li, .ref ra, .int (rl), .ref o, .ref sp, .int (nI (1))])), (o, .inr (1, [.ref wa, .ref sa, .ref la, .int (nI (fm_HF B 2)), .int (nI (fm_HF B 3)), .int (nI (s0)), .int (nI (fm_z s0)), .int (nI (fm_h s0))])), (wa, .inl (cI, 2048, .inl (w))), (sa, .inl (cI, 10, .inl (st))), (la, .inl (cI, 10, .inl (ln))), (ou, .inl (cL, 1, .inr (.inl (ov))))] [(h, .inr (3, [.ref bf, .ref li, .ref ra, .int (rl), .ref o, .ref sp, .int (nI (1))])), (o, .inr (1, [.ref wa, .ref sa, .ref la, .int (nI (fm_HF B 2)), .int (nI (fm_HF B 3)), .int (nI (s0)), .int (nI (fm_z s0)), .int (nI (fm_h s0))])), (wa, .inl (cI, 2048, .inl (w))), (sa, .inl (cI, 10, .inl (st))), (la, .inl (cI, 10, .inl (ln))), (ou, .inl (cL, 1, .inr (.inl (vp_updL ov 0 ((fm_ab B s0 v).toInt64)))))] [(cI, .int), (cL, .long)] (some (.int (nI (0)))) := by
  refine va_MetW (cc := b_LW_about) (maxL := 4) (ret := (some .int)) (by decide) rfl ?_
  intro pg ev s m args below meth cd s₁ BD hml hv
  obtain ⟨rfl, hP, hK, hD0⟩ := hv
  have hx := BD.exec
  have hb := BD.bytes
  have hr := BD.returns
  have hts := atoms_spec (ws := w_LW_about) BD.pre
  have ht : ∀ w ∈ fm_T, w.before _ s = true := fun w h => hts w (List.mem_cons_of_mem _ h)
  have hown : s.vm.findClass R_LW = some m.cls := findClass_of_methodNamed BD.named
  have hlocks := BD.notSynchronized
  have S : CallFix pg m cd b_LW_about 4 s _ w_LW_about R_LW := ⟨hx, hb, hml, hown, hts⟩
  have hD := fm_selfD hD0
  generalize fm_A [(h, .inr (3, [.ref bf, .ref li, .ref ra, .int (rl), .ref o, .ref sp, .int (nI (1))])), (o, .inr (1, [.ref wa, .ref sa, .ref la, .int (nI (fm_HF B 2)), .int (nI (fm_HF B 3)), .int (nI (s0)), .int (nI (fm_z s0)), .int (nI (fm_h s0))])), (wa, .inl (cI, 2048, .inl (w))), (sa, .inl (cI, 10, .inl (st))), (la, .inl (cI, 10, .inl (ln))), (ou, .inl (cL, 1, .inr (.inl (ov))))] = A at hD ⊢
  have hS : va_S A s.heap s.heap [] := va_S.rf
  have hl := lv_entry ([.ref h, .int (nI (v)), .ref ou]) (n := 4) (Nat.le_of_ble_eq_true rfl)
  rw [lg_entry_eq]
  generalize (lg_sl ([.ref h, .int (nI (v)), .ref ou]) ++ List.replicate (4 - (lg_sl ([.ref h, .int (nI (v)), .ref ou])).length) Slot.unset).toArray = ls at hl ⊢
  have hl : lv_has ls 4 [(0, .ref h), (1, .int (nI (v))), (2, .ref ou)] := hl
  refine lv_aload_n hx hb d_LW_about_0 rfl (lv_at hl 2 rfl) ?_
  refine lv_iconst (v := nI (0)) hx hb d_LW_about_1 (by decide) ?_
  refine lv_aload_n hx hb d_LW_about_2 rfl (lv_at hl 0 rfl) ?_
  refine lv_iload_n hx hb d_LW_about_3 rfl (lv_at hl 1 rfl) ?_
  refine fm_cv S (c_FM_about l dC dI h bf li ra rl o sp wa sa la s0 cI B w st ln v (hF) (hV) (hv)) rfl rfl k_FM_about q_2_148 ⟨Nat.le_of_ble_eq_true rfl, Nat.le_of_ble_eq_true rfl⟩ (hP.sub [0, 1, 2, 3, 4] rfl) (hK.sub [0] rfl) 0 rfl rfl rfl hl.1 rfl (Nat.le_of_ble_eq_true rfl) ⟨Nat.zero_le _, Nat.zero_le _⟩ d_LW_about_4 ?_
  refine lv_i2l (v := (fm_ab B s0 v).toInt64) hx hb d_LW_about_7 (rfl) ?_
  refine va_last hx hb hK hP hD hS 5 1 rfl rfl (vp_in_nI (by omega) (by omega)) d_LW_about_8 (fun H locs hP hD hS => ?_)
  have hP : va_P (dC, dI) classes [(h, .inr (3, [.ref bf, .ref li, .ref ra, .int (rl), .ref o, .ref sp, .int (nI (1))])), (o, .inr (1, [.ref wa, .ref sa, .ref la, .int (nI (fm_HF B 2)), .int (nI (fm_HF B 3)), .int (nI (s0)), .int (nI (fm_z s0)), .int (nI (fm_h s0))])), (wa, .inl (cI, 2048, .inl (w))), (sa, .inl (cI, 10, .inl (st))), (la, .inl (cI, 10, .inl (ln))), (ou, .inl (cL, 1, .inr (.inl (vp_updL ov (nI (0)).toNatClampNeg ((fm_ab B s0 v).toInt64)))))] _ := hP
  have hD : va_D A [(h, .inr (3, [.ref bf, .ref li, .ref ra, .int (rl), .ref o, .ref sp, .int (nI (1))])), (o, .inr (1, [.ref wa, .ref sa, .ref la, .int (nI (fm_HF B 2)), .int (nI (fm_HF B 3)), .int (nI (s0)), .int (nI (fm_z s0)), .int (nI (fm_h s0))])), (wa, .inl (cI, 2048, .inl (w))), (sa, .inl (cI, 10, .inl (st))), (la, .inl (cI, 10, .inl (ln))), (ou, .inl (cL, 1, .inr (.inl (vp_updL ov (nI (0)).toNatClampNeg ((fm_ab B s0 v).toInt64)))))] := hD
  rw [nI_clamp (show 0 < 2 ^ 31 by omega)] at hP hD
  have hP : va_P (dC, dI) classes [(h, .inr (3, [.ref bf, .ref li, .ref ra, .int (rl), .ref o, .ref sp, .int (nI (1))])), (o, .inr (1, [.ref wa, .ref sa, .ref la, .int (nI (fm_HF B 2)), .int (nI (fm_HF B 3)), .int (nI (s0)), .int (nI (fm_z s0)), .int (nI (fm_h s0))])), (wa, .inl (cI, 2048, .inl (w))), (sa, .inl (cI, 10, .inl (st))), (la, .inl (cI, 10, .inl (ln))), (ou, .inl (cL, 1, .inr (.inl (vp_updL ov (0) ((fm_ab B s0 v).toInt64)))))] _ := hP
  have hD : va_D A [(h, .inr (3, [.ref bf, .ref li, .ref ra, .int (rl), .ref o, .ref sp, .int (nI (1))])), (o, .inr (1, [.ref wa, .ref sa, .ref la, .int (nI (fm_HF B 2)), .int (nI (fm_HF B 3)), .int (nI (s0)), .int (nI (fm_z s0)), .int (nI (fm_h s0))])), (wa, .inl (cI, 2048, .inl (w))), (sa, .inl (cI, 10, .inl (st))), (la, .inl (cI, 10, .inl (ln))), (ou, .inl (cL, 1, .inr (.inl (vp_updL ov (0) ((fm_ab B s0 v).toInt64)))))] := hD
  refine lv_goto (tgt := 18) hx hb d_LW_about_9 (by decide) ?_
  refine lv_iconst (v := nI (0)) hx hb d_LW_about_18 (by decide) ?_
  exact W.iret hx hb hr (fun t ht hW => ⟨congrArg (fun z => Outcome.returned (some (Value.int z))) (rfl), by rw [ht]; exact hP, hS.F ht⟩) hS.2.2 d_LW_about_19
theorem d_LW_of_0 : decode b_LW_of 0 = .ok (.aload_n 3, 1) := by decide +kernel
theorem d_LW_of_1 : decode b_LW_of 1 = .ok (.iconst 0, 1) := by decide +kernel
theorem d_LW_of_2 : decode b_LW_of 2 = .ok (.aload_n 0, 1) := by decide +kernel
theorem d_LW_of_3 : decode b_LW_of 3 = .ok (.iload_n 1, 1) := by decide +kernel
theorem d_LW_of_4 : decode b_LW_of 4 = .ok (.iload_n 2, 1) := by decide +kernel
theorem d_LW_of_5 : decode b_LW_of 5 = .ok (.invokevirtual 22, 3) := by decide +kernel
theorem d_LW_of_8 : decode b_LW_of 8 = .ok (.i2l, 1) := by decide +kernel
theorem d_LW_of_9 : decode b_LW_of 9 = .ok (.lastore, 1) := by decide +kernel
theorem d_LW_of_10 : decode b_LW_of 10 = .ok (.goto 11, 3) := by decide +kernel
theorem d_LW_of_13 : decode b_LW_of 13 = .ok (.astore 4, 2) := by decide +kernel
theorem d_LW_of_15 : decode b_LW_of 15 = .ok (.iconst 1, 1) := by decide +kernel
theorem d_LW_of_16 : decode b_LW_of 16 = .ok (.ireturn, 1) := by decide +kernel
theorem d_LW_of_17 : decode b_LW_of 17 = .ok (.astore 4, 2) := by decide +kernel
theorem d_LW_of_19 : decode b_LW_of 19 = .ok (.iconst 2, 1) := by decide +kernel
theorem d_LW_of_20 : decode b_LW_of 20 = .ok (.ireturn, 1) := by decide +kernel
theorem d_LW_of_21 : decode b_LW_of 21 = .ok (.iconst 0, 1) := by decide +kernel
theorem d_LW_of_22 : decode b_LW_of 22 = .ok (.ireturn, 1) := by decide +kernel
set_option maxHeartbeats 4000000 in
set_option maxRecDepth 100000 in
theorem c_LW_ofY (l : Launch) (dC : Nat → ClassId) (dI : Nat → Nat → Nat) (h : Nat) (bf : Nat) (li : Nat) (ra : Nat) (rl : Int32) (o : Nat) (sp : Nat) (wa : Nat) (sa : Nat) (la : Nat) (s0 : Nat) (cI : ClassId) (B : Nat → Nat) (w : Nat → Int32) (st : Nat → Int32) (ln : Nat → Int32) (c : Nat) (v : Nat) (ou : Nat) (cL : ClassId) (ov : Nat → Int64) (hF : fm_FO B w st ln) (hz : fm_all (fm_WD B 1) (fm_size1 B) = true) (hs : s0 < 134217728) (hth : fm_th B c = true) (hc31 : c < 2 ^ 31) (hv : v < 6) : fm_MW l (dC, dI) y_LW_of w_LW_of ({ frames := 5, cells := 0, slots := 0, locals := 108 }) [.ref h, .int (nI (c)), .int (nI (v)), .ref ou] [(h, .inr (3, [.ref bf, .ref li, .ref ra, .int (rl), .ref o, .ref sp, .int (nI (1))])), (o, .inr (1, [.ref wa, .ref sa, .ref la, .int (nI (fm_HF B 2)), .int (nI (fm_HF B 3)), .int (nI (s0)), .int (nI (fm_z s0)), .int (nI (fm_h s0))])), (wa, .inl (cI, 2048, .inl (w))), (sa, .inl (cI, 10, .inl (st))), (la, .inl (cI, 10, .inl (ln))), (ou, .inl (cL, 1, .inr (.inl (ov))))] [(h, .inr (3, [.ref bf, .ref li, .ref ra, .int (rl), .ref o, .ref sp, .int (nI (1))])), (o, .inr (1, [.ref wa, .ref sa, .ref la, .int (nI (fm_HF B 2)), .int (nI (fm_HF B 3)), .int (nI (s0)), .int (nI (fm_z s0)), .int (nI (fm_h s0))])), (wa, .inl (cI, 2048, .inl (w))), (sa, .inl (cI, 10, .inl (st))), (la, .inl (cI, 10, .inl (ln))), (ou, .inl (cL, 1, .inr (.inl (vp_updL ov 0 ((fm_of B s0 c v).toInt64)))))] [(cI, .int), (cL, .long)] (some (.int (nI (0)))) := by
  refine va_MetW (cc := b_LW_of) (maxL := 5) (ret := (some .int)) (by decide) rfl ?_
  intro pg ev s m args below meth cd s₁ BD hml hv
  obtain ⟨rfl, hP, hK, hD0⟩ := hv
  have hx := BD.exec
  have hb := BD.bytes
  have hr := BD.returns
  have hts := atoms_spec (ws := w_LW_of) BD.pre
  have ht : ∀ w ∈ fm_T, w.before _ s = true := fun w h => hts w (List.mem_cons_of_mem _ h)
  have hown : s.vm.findClass R_LW = some m.cls := findClass_of_methodNamed BD.named
  have hlocks := BD.notSynchronized
  have S : CallFix pg m cd b_LW_of 5 s _ w_LW_of R_LW := ⟨hx, hb, hml, hown, hts⟩
  have hD := fm_selfD hD0
  generalize fm_A [(h, .inr (3, [.ref bf, .ref li, .ref ra, .int (rl), .ref o, .ref sp, .int (nI (1))])), (o, .inr (1, [.ref wa, .ref sa, .ref la, .int (nI (fm_HF B 2)), .int (nI (fm_HF B 3)), .int (nI (s0)), .int (nI (fm_z s0)), .int (nI (fm_h s0))])), (wa, .inl (cI, 2048, .inl (w))), (sa, .inl (cI, 10, .inl (st))), (la, .inl (cI, 10, .inl (ln))), (ou, .inl (cL, 1, .inr (.inl (ov))))] = A at hD ⊢
  have hS : va_S A s.heap s.heap [] := va_S.rf
  have hl := lv_entry ([.ref h, .int (nI (c)), .int (nI (v)), .ref ou]) (n := 5) (Nat.le_of_ble_eq_true rfl)
  rw [lg_entry_eq]
  generalize (lg_sl ([.ref h, .int (nI (c)), .int (nI (v)), .ref ou]) ++ List.replicate (5 - (lg_sl ([.ref h, .int (nI (c)), .int (nI (v)), .ref ou])).length) Slot.unset).toArray = ls at hl ⊢
  have hl : lv_has ls 5 [(0, .ref h), (1, .int (nI (c))), (2, .int (nI (v))), (3, .ref ou)] := hl
  refine lv_aload_n hx hb d_LW_of_0 rfl (lv_at hl 3 rfl) ?_
  refine lv_iconst (v := nI (0)) hx hb d_LW_of_1 (by decide) ?_
  refine lv_aload_n hx hb d_LW_of_2 rfl (lv_at hl 0 rfl) ?_
  refine lv_iload_n hx hb d_LW_of_3 rfl (lv_at hl 1 rfl) ?_
  refine lv_iload_n hx hb d_LW_of_4 rfl (lv_at hl 2 rfl) ?_
  refine fm_cv S (c_FM_of l dC dI h bf li ra rl o sp wa sa la s0 cI B w st ln c v (hF) (hz) (hs) (hth) (hc31) (hv)) rfl rfl k_FM_of q_2_199 ⟨Nat.le_of_ble_eq_true rfl, Nat.le_of_ble_eq_true rfl⟩ (hP.sub [0, 1, 2, 3, 4] rfl) (hK.sub [0] rfl) 0 rfl rfl rfl hl.1 rfl (Nat.le_of_ble_eq_true rfl) ⟨Nat.zero_le _, Nat.zero_le _⟩ d_LW_of_5 ?_
  refine lv_i2l (v := (fm_of B s0 c v).toInt64) hx hb d_LW_of_8 (rfl) ?_
  refine va_last hx hb hK hP hD hS 5 1 rfl rfl (vp_in_nI (by omega) (by omega)) d_LW_of_9 (fun H locs hP hD hS => ?_)
  have hP : va_P (dC, dI) classes [(h, .inr (3, [.ref bf, .ref li, .ref ra, .int (rl), .ref o, .ref sp, .int (nI (1))])), (o, .inr (1, [.ref wa, .ref sa, .ref la, .int (nI (fm_HF B 2)), .int (nI (fm_HF B 3)), .int (nI (s0)), .int (nI (fm_z s0)), .int (nI (fm_h s0))])), (wa, .inl (cI, 2048, .inl (w))), (sa, .inl (cI, 10, .inl (st))), (la, .inl (cI, 10, .inl (ln))), (ou, .inl (cL, 1, .inr (.inl (vp_updL ov (nI (0)).toNatClampNeg ((fm_of B s0 c v).toInt64)))))] _ := hP
  have hD : va_D A [(h, .inr (3, [.ref bf, .ref li, .ref ra, .int (rl), .ref o, .ref sp, .int (nI (1))])), (o, .inr (1, [.ref wa, .ref sa, .ref la, .int (nI (fm_HF B 2)), .int (nI (fm_HF B 3)), .int (nI (s0)), .int (nI (fm_z s0)), .int (nI (fm_h s0))])), (wa, .inl (cI, 2048, .inl (w))), (sa, .inl (cI, 10, .inl (st))), (la, .inl (cI, 10, .inl (ln))), (ou, .inl (cL, 1, .inr (.inl (vp_updL ov (nI (0)).toNatClampNeg ((fm_of B s0 c v).toInt64)))))] := hD
  rw [nI_clamp (show 0 < 2 ^ 31 by omega)] at hP hD
  have hP : va_P (dC, dI) classes [(h, .inr (3, [.ref bf, .ref li, .ref ra, .int (rl), .ref o, .ref sp, .int (nI (1))])), (o, .inr (1, [.ref wa, .ref sa, .ref la, .int (nI (fm_HF B 2)), .int (nI (fm_HF B 3)), .int (nI (s0)), .int (nI (fm_z s0)), .int (nI (fm_h s0))])), (wa, .inl (cI, 2048, .inl (w))), (sa, .inl (cI, 10, .inl (st))), (la, .inl (cI, 10, .inl (ln))), (ou, .inl (cL, 1, .inr (.inl (vp_updL ov (0) ((fm_of B s0 c v).toInt64)))))] _ := hP
  have hD : va_D A [(h, .inr (3, [.ref bf, .ref li, .ref ra, .int (rl), .ref o, .ref sp, .int (nI (1))])), (o, .inr (1, [.ref wa, .ref sa, .ref la, .int (nI (fm_HF B 2)), .int (nI (fm_HF B 3)), .int (nI (s0)), .int (nI (fm_z s0)), .int (nI (fm_h s0))])), (wa, .inl (cI, 2048, .inl (w))), (sa, .inl (cI, 10, .inl (st))), (la, .inl (cI, 10, .inl (ln))), (ou, .inl (cL, 1, .inr (.inl (vp_updL ov (0) ((fm_of B s0 c v).toInt64)))))] := hD
  refine lv_goto (tgt := 21) hx hb d_LW_of_10 (by decide) ?_
  refine lv_iconst (v := nI (0)) hx hb d_LW_of_21 (by decide) ?_
  exact W.iret hx hb hr (fun t ht hW => ⟨congrArg (fun z => Outcome.returned (some (Value.int z))) (rfl), by rw [ht]; exact hP, hS.F ht⟩) hS.2.2 d_LW_of_22
theorem d_LW_part_0 : decode b_LW_part 0 = .ok (.aload_n 3, 1) := by decide +kernel
theorem d_LW_part_1 : decode b_LW_part 1 = .ok (.iconst 0, 1) := by decide +kernel
theorem d_LW_part_2 : decode b_LW_part 2 = .ok (.aload_n 0, 1) := by decide +kernel
theorem d_LW_part_3 : decode b_LW_part 3 = .ok (.iload_n 1, 1) := by decide +kernel
theorem d_LW_part_4 : decode b_LW_part 4 = .ok (.iload_n 2, 1) := by decide +kernel
theorem d_LW_part_5 : decode b_LW_part 5 = .ok (.invokevirtual 26, 3) := by decide +kernel
theorem d_LW_part_8 : decode b_LW_part 8 = .ok (.i2l, 1) := by decide +kernel
theorem d_LW_part_9 : decode b_LW_part 9 = .ok (.lastore, 1) := by decide +kernel
theorem d_LW_part_10 : decode b_LW_part 10 = .ok (.goto 11, 3) := by decide +kernel
theorem d_LW_part_13 : decode b_LW_part 13 = .ok (.astore 4, 2) := by decide +kernel
theorem d_LW_part_15 : decode b_LW_part 15 = .ok (.iconst 1, 1) := by decide +kernel
theorem d_LW_part_16 : decode b_LW_part 16 = .ok (.ireturn, 1) := by decide +kernel
theorem d_LW_part_17 : decode b_LW_part 17 = .ok (.astore 4, 2) := by decide +kernel
theorem d_LW_part_19 : decode b_LW_part 19 = .ok (.iconst 2, 1) := by decide +kernel
theorem d_LW_part_20 : decode b_LW_part 20 = .ok (.ireturn, 1) := by decide +kernel
theorem d_LW_part_21 : decode b_LW_part 21 = .ok (.iconst 0, 1) := by decide +kernel
theorem d_LW_part_22 : decode b_LW_part 22 = .ok (.ireturn, 1) := by decide +kernel
set_option maxHeartbeats 4000000 in
set_option maxRecDepth 100000 in
theorem c_LW_partY (l : Launch) (dC : Nat → ClassId) (dI : Nat → Nat → Nat) (h : Nat) (bf : Nat) (li : Nat) (ra : Nat) (rl : Int32) (o : Nat) (sp : Nat) (wa : Nat) (sa : Nat) (la : Nat) (s0 : Nat) (cI : ClassId) (B : Nat → Nat) (w : Nat → Int32) (st : Nat → Int32) (ln : Nat → Int32) (c : Nat) (k : Nat) (ou : Nat) (cL : ClassId) (ov : Nat → Int64) (hF : fm_FO B w st ln) (hV : fm_V B) (hth : fm_th B c = true) (hc31 : c < 2 ^ 31) (htg : fm_tag B c = 3) (hk : k < 4) : fm_MW l (dC, dI) y_LW_part w_LW_part ({ frames := 5, cells := 0, slots := 0, locals := 109 }) [.ref h, .int (nI (c)), .int (nI (k)), .ref ou] [(h, .inr (3, [.ref bf, .ref li, .ref ra, .int (rl), .ref o, .ref sp, .int (nI (1))])), (o, .inr (1, [.ref wa, .ref sa, .ref la, .int (nI (fm_HF B 2)), .int (nI (fm_HF B 3)), .int (nI (s0)), .int (nI (fm_z s0)), .int (nI (fm_h s0))])), (wa, .inl (cI, 2048, .inl (w))), (sa, .inl (cI, 10, .inl (st))), (la, .inl (cI, 10, .inl (ln))), (ou, .inl (cL, 1, .inr (.inl (ov))))] [(h, .inr (3, [.ref bf, .ref li, .ref ra, .int (rl), .ref o, .ref sp, .int (nI (1))])), (o, .inr (1, [.ref wa, .ref sa, .ref la, .int (nI (fm_HF B 2)), .int (nI (fm_HF B 3)), .int (nI (s0)), .int (nI (fm_z s0)), .int (nI (fm_h s0))])), (wa, .inl (cI, 2048, .inl (w))), (sa, .inl (cI, 10, .inl (st))), (la, .inl (cI, 10, .inl (ln))), (ou, .inl (cL, 1, .inr (.inl (vp_updL ov 0 ((nI (fm_AT B 8 (fm_rest B c) k)).toInt64)))))] [(cI, .int), (cL, .long)] (some (.int (nI (0)))) := by
  refine va_MetW (cc := b_LW_part) (maxL := 5) (ret := (some .int)) (by decide) rfl ?_
  intro pg ev s m args below meth cd s₁ BD hml hv
  obtain ⟨rfl, hP, hK, hD0⟩ := hv
  have hx := BD.exec
  have hb := BD.bytes
  have hr := BD.returns
  have hts := atoms_spec (ws := w_LW_part) BD.pre
  have ht : ∀ w ∈ fm_T, w.before _ s = true := fun w h => hts w (List.mem_cons_of_mem _ h)
  have hown : s.vm.findClass R_LW = some m.cls := findClass_of_methodNamed BD.named
  have hlocks := BD.notSynchronized
  have S : CallFix pg m cd b_LW_part 5 s _ w_LW_part R_LW := ⟨hx, hb, hml, hown, hts⟩
  have hD := fm_selfD hD0
  generalize fm_A [(h, .inr (3, [.ref bf, .ref li, .ref ra, .int (rl), .ref o, .ref sp, .int (nI (1))])), (o, .inr (1, [.ref wa, .ref sa, .ref la, .int (nI (fm_HF B 2)), .int (nI (fm_HF B 3)), .int (nI (s0)), .int (nI (fm_z s0)), .int (nI (fm_h s0))])), (wa, .inl (cI, 2048, .inl (w))), (sa, .inl (cI, 10, .inl (st))), (la, .inl (cI, 10, .inl (ln))), (ou, .inl (cL, 1, .inr (.inl (ov))))] = A at hD ⊢
  have hS : va_S A s.heap s.heap [] := va_S.rf
  have hl := lv_entry ([.ref h, .int (nI (c)), .int (nI (k)), .ref ou]) (n := 5) (Nat.le_of_ble_eq_true rfl)
  rw [lg_entry_eq]
  generalize (lg_sl ([.ref h, .int (nI (c)), .int (nI (k)), .ref ou]) ++ List.replicate (5 - (lg_sl ([.ref h, .int (nI (c)), .int (nI (k)), .ref ou])).length) Slot.unset).toArray = ls at hl ⊢
  have hl : lv_has ls 5 [(0, .ref h), (1, .int (nI (c))), (2, .int (nI (k))), (3, .ref ou)] := hl
  refine lv_aload_n hx hb d_LW_part_0 rfl (lv_at hl 3 rfl) ?_
  refine lv_iconst (v := nI (0)) hx hb d_LW_part_1 (by decide) ?_
  refine lv_aload_n hx hb d_LW_part_2 rfl (lv_at hl 0 rfl) ?_
  refine lv_iload_n hx hb d_LW_part_3 rfl (lv_at hl 1 rfl) ?_
  refine lv_iload_n hx hb d_LW_part_4 rfl (lv_at hl 2 rfl) ?_
  refine fm_cv S (c_FM_part l dC dI h bf li ra rl o sp wa sa la s0 cI B w st ln c k (hF) (hV) (hth) (hc31) (htg) (hk)) rfl rfl k_FM_part q_2_230 ⟨Nat.le_of_ble_eq_true rfl, Nat.le_of_ble_eq_true rfl⟩ (hP.sub [0, 1, 2, 3, 4] rfl) (hK.sub [0] rfl) 0 rfl rfl rfl hl.1 rfl (Nat.le_of_ble_eq_true rfl) ⟨Nat.zero_le _, Nat.zero_le _⟩ d_LW_part_5 ?_
  refine lv_i2l (v := (nI (fm_AT B 8 (fm_rest B c) k)).toInt64) hx hb d_LW_part_8 (rfl) ?_
  refine va_last hx hb hK hP hD hS 5 1 rfl rfl (vp_in_nI (by omega) (by omega)) d_LW_part_9 (fun H locs hP hD hS => ?_)
  have hP : va_P (dC, dI) classes [(h, .inr (3, [.ref bf, .ref li, .ref ra, .int (rl), .ref o, .ref sp, .int (nI (1))])), (o, .inr (1, [.ref wa, .ref sa, .ref la, .int (nI (fm_HF B 2)), .int (nI (fm_HF B 3)), .int (nI (s0)), .int (nI (fm_z s0)), .int (nI (fm_h s0))])), (wa, .inl (cI, 2048, .inl (w))), (sa, .inl (cI, 10, .inl (st))), (la, .inl (cI, 10, .inl (ln))), (ou, .inl (cL, 1, .inr (.inl (vp_updL ov (nI (0)).toNatClampNeg ((nI (fm_AT B 8 (fm_rest B c) k)).toInt64)))))] _ := hP
  have hD : va_D A [(h, .inr (3, [.ref bf, .ref li, .ref ra, .int (rl), .ref o, .ref sp, .int (nI (1))])), (o, .inr (1, [.ref wa, .ref sa, .ref la, .int (nI (fm_HF B 2)), .int (nI (fm_HF B 3)), .int (nI (s0)), .int (nI (fm_z s0)), .int (nI (fm_h s0))])), (wa, .inl (cI, 2048, .inl (w))), (sa, .inl (cI, 10, .inl (st))), (la, .inl (cI, 10, .inl (ln))), (ou, .inl (cL, 1, .inr (.inl (vp_updL ov (nI (0)).toNatClampNeg ((nI (fm_AT B 8 (fm_rest B c) k)).toInt64)))))] := hD
  rw [nI_clamp (show 0 < 2 ^ 31 by omega)] at hP hD
  have hP : va_P (dC, dI) classes [(h, .inr (3, [.ref bf, .ref li, .ref ra, .int (rl), .ref o, .ref sp, .int (nI (1))])), (o, .inr (1, [.ref wa, .ref sa, .ref la, .int (nI (fm_HF B 2)), .int (nI (fm_HF B 3)), .int (nI (s0)), .int (nI (fm_z s0)), .int (nI (fm_h s0))])), (wa, .inl (cI, 2048, .inl (w))), (sa, .inl (cI, 10, .inl (st))), (la, .inl (cI, 10, .inl (ln))), (ou, .inl (cL, 1, .inr (.inl (vp_updL ov (0) ((nI (fm_AT B 8 (fm_rest B c) k)).toInt64)))))] _ := hP
  have hD : va_D A [(h, .inr (3, [.ref bf, .ref li, .ref ra, .int (rl), .ref o, .ref sp, .int (nI (1))])), (o, .inr (1, [.ref wa, .ref sa, .ref la, .int (nI (fm_HF B 2)), .int (nI (fm_HF B 3)), .int (nI (s0)), .int (nI (fm_z s0)), .int (nI (fm_h s0))])), (wa, .inl (cI, 2048, .inl (w))), (sa, .inl (cI, 10, .inl (st))), (la, .inl (cI, 10, .inl (ln))), (ou, .inl (cL, 1, .inr (.inl (vp_updL ov (0) ((nI (fm_AT B 8 (fm_rest B c) k)).toInt64)))))] := hD
  refine lv_goto (tgt := 21) hx hb d_LW_part_10 (by decide) ?_
  refine lv_iconst (v := nI (0)) hx hb d_LW_part_21 (by decide) ?_
  exact W.iret hx hb hr (fun t ht hW => ⟨congrArg (fun z => Outcome.returned (some (Value.int z))) (rfl), by rw [ht]; exact hP, hS.F ht⟩) hS.2.2 d_LW_part_22
theorem d_LW_parameter_0 : decode b_LW_parameter 0 = .ok (.aload_n 2, 1) := by decide +kernel
theorem d_LW_parameter_1 : decode b_LW_parameter 1 = .ok (.iconst 0, 1) := by decide +kernel
theorem d_LW_parameter_2 : decode b_LW_parameter 2 = .ok (.aload_n 0, 1) := by decide +kernel
theorem d_LW_parameter_3 : decode b_LW_parameter 3 = .ok (.iload_n 1, 1) := by decide +kernel
theorem d_LW_parameter_4 : decode b_LW_parameter 4 = .ok (.invokevirtual 29, 3) := by decide +kernel
theorem d_LW_parameter_7 : decode b_LW_parameter 7 = .ok (.i2l, 1) := by decide +kernel
theorem d_LW_parameter_8 : decode b_LW_parameter 8 = .ok (.lastore, 1) := by decide +kernel
theorem d_LW_parameter_9 : decode b_LW_parameter 9 = .ok (.goto 9, 3) := by decide +kernel
theorem d_LW_parameter_12 : decode b_LW_parameter 12 = .ok (.astore_n 3, 1) := by decide +kernel
theorem d_LW_parameter_13 : decode b_LW_parameter 13 = .ok (.iconst 1, 1) := by decide +kernel
theorem d_LW_parameter_14 : decode b_LW_parameter 14 = .ok (.ireturn, 1) := by decide +kernel
theorem d_LW_parameter_15 : decode b_LW_parameter 15 = .ok (.astore_n 3, 1) := by decide +kernel
theorem d_LW_parameter_16 : decode b_LW_parameter 16 = .ok (.iconst 2, 1) := by decide +kernel
theorem d_LW_parameter_17 : decode b_LW_parameter 17 = .ok (.ireturn, 1) := by decide +kernel
theorem d_LW_parameter_18 : decode b_LW_parameter 18 = .ok (.iconst 0, 1) := by decide +kernel
theorem d_LW_parameter_19 : decode b_LW_parameter 19 = .ok (.ireturn, 1) := by decide +kernel
set_option maxHeartbeats 4000000 in
set_option maxRecDepth 100000 in
theorem c_LW_parameterY (l : Launch) (dC : Nat → ClassId) (dI : Nat → Nat → Nat) (h : Nat) (bf : Nat) (li : Nat) (ra : Nat) (rl : Int32) (o : Nat) (sp : Nat) (wa : Nat) (sa : Nat) (la : Nat) (s0 : Nat) (cI : ClassId) (B : Nat → Nat) (w : Nat → Int32) (st : Nat → Int32) (ln : Nat → Int32) (i : Nat) (ou : Nat) (cL : ClassId) (ov : Nat → Int64) (hF : fm_FO B w st ln) (hs : s0 < 134217728) (hi1 : 0 < i) (hi2 : i ≤ fm_WD B 9) : fm_MW l (dC, dI) y_LW_parameter w_LW_parameter ({ frames := 3, cells := 0, slots := 0, locals := 68 }) [.ref h, .int (nI (i)), .ref ou] [(h, .inr (3, [.ref bf, .ref li, .ref ra, .int (rl), .ref o, .ref sp, .int (nI (1))])), (o, .inr (1, [.ref wa, .ref sa, .ref la, .int (nI (fm_HF B 2)), .int (nI (fm_HF B 3)), .int (nI (s0)), .int (nI (fm_z s0)), .int (nI (fm_h s0))])), (wa, .inl (cI, 2048, .inl (w))), (sa, .inl (cI, 10, .inl (st))), (la, .inl (cI, 10, .inl (ln))), (ou, .inl (cL, 1, .inr (.inl (ov))))] [(h, .inr (3, [.ref bf, .ref li, .ref ra, .int (rl), .ref o, .ref sp, .int (nI (1))])), (o, .inr (1, [.ref wa, .ref sa, .ref la, .int (nI (fm_HF B 2)), .int (nI (fm_HF B 3)), .int (nI (s0)), .int (nI (fm_z s0)), .int (nI (fm_h s0))])), (wa, .inl (cI, 2048, .inl (w))), (sa, .inl (cI, 10, .inl (st))), (la, .inl (cI, 10, .inl (ln))), (ou, .inl (cL, 1, .inr (.inl (vp_updL ov 0 ((fm_par B s0 i).toInt64)))))] [(cI, .int), (cL, .long)] (some (.int (nI (0)))) := by
  refine va_MetW (cc := b_LW_parameter) (maxL := 4) (ret := (some .int)) (by decide) rfl ?_
  intro pg ev s m args below meth cd s₁ BD hml hv
  obtain ⟨rfl, hP, hK, hD0⟩ := hv
  have hx := BD.exec
  have hb := BD.bytes
  have hr := BD.returns
  have hts := atoms_spec (ws := w_LW_parameter) BD.pre
  have ht : ∀ w ∈ fm_T, w.before _ s = true := fun w h => hts w (List.mem_cons_of_mem _ h)
  have hown : s.vm.findClass R_LW = some m.cls := findClass_of_methodNamed BD.named
  have hlocks := BD.notSynchronized
  have S : CallFix pg m cd b_LW_parameter 4 s _ w_LW_parameter R_LW := ⟨hx, hb, hml, hown, hts⟩
  have hD := fm_selfD hD0
  generalize fm_A [(h, .inr (3, [.ref bf, .ref li, .ref ra, .int (rl), .ref o, .ref sp, .int (nI (1))])), (o, .inr (1, [.ref wa, .ref sa, .ref la, .int (nI (fm_HF B 2)), .int (nI (fm_HF B 3)), .int (nI (s0)), .int (nI (fm_z s0)), .int (nI (fm_h s0))])), (wa, .inl (cI, 2048, .inl (w))), (sa, .inl (cI, 10, .inl (st))), (la, .inl (cI, 10, .inl (ln))), (ou, .inl (cL, 1, .inr (.inl (ov))))] = A at hD ⊢
  have hS : va_S A s.heap s.heap [] := va_S.rf
  have hl := lv_entry ([.ref h, .int (nI (i)), .ref ou]) (n := 4) (Nat.le_of_ble_eq_true rfl)
  rw [lg_entry_eq]
  generalize (lg_sl ([.ref h, .int (nI (i)), .ref ou]) ++ List.replicate (4 - (lg_sl ([.ref h, .int (nI (i)), .ref ou])).length) Slot.unset).toArray = ls at hl ⊢
  have hl : lv_has ls 4 [(0, .ref h), (1, .int (nI (i))), (2, .ref ou)] := hl
  refine lv_aload_n hx hb d_LW_parameter_0 rfl (lv_at hl 2 rfl) ?_
  refine lv_iconst (v := nI (0)) hx hb d_LW_parameter_1 (by decide) ?_
  refine lv_aload_n hx hb d_LW_parameter_2 rfl (lv_at hl 0 rfl) ?_
  refine lv_iload_n hx hb d_LW_parameter_3 rfl (lv_at hl 1 rfl) ?_
  refine fm_cv S (c_FM_parameter l dC dI h bf li ra rl o sp wa sa la s0 cI B w st ln i (hF) (hs) (hi1) (hi2)) rfl rfl k_FM_parameter q_3_0 ⟨Nat.le_of_ble_eq_true rfl, Nat.le_of_ble_eq_true rfl⟩ (hP.sub [0, 1, 2, 3, 4] rfl) (hK.sub [0] rfl) 0 rfl rfl rfl hl.1 rfl (Nat.le_of_ble_eq_true rfl) ⟨Nat.zero_le _, Nat.zero_le _⟩ d_LW_parameter_4 ?_
  refine lv_i2l (v := (fm_par B s0 i).toInt64) hx hb d_LW_parameter_7 (rfl) ?_
  refine va_last hx hb hK hP hD hS 5 1 rfl rfl (vp_in_nI (by omega) (by omega)) d_LW_parameter_8 (fun H locs hP hD hS => ?_)
  have hP : va_P (dC, dI) classes [(h, .inr (3, [.ref bf, .ref li, .ref ra, .int (rl), .ref o, .ref sp, .int (nI (1))])), (o, .inr (1, [.ref wa, .ref sa, .ref la, .int (nI (fm_HF B 2)), .int (nI (fm_HF B 3)), .int (nI (s0)), .int (nI (fm_z s0)), .int (nI (fm_h s0))])), (wa, .inl (cI, 2048, .inl (w))), (sa, .inl (cI, 10, .inl (st))), (la, .inl (cI, 10, .inl (ln))), (ou, .inl (cL, 1, .inr (.inl (vp_updL ov (nI (0)).toNatClampNeg ((fm_par B s0 i).toInt64)))))] _ := hP
  have hD : va_D A [(h, .inr (3, [.ref bf, .ref li, .ref ra, .int (rl), .ref o, .ref sp, .int (nI (1))])), (o, .inr (1, [.ref wa, .ref sa, .ref la, .int (nI (fm_HF B 2)), .int (nI (fm_HF B 3)), .int (nI (s0)), .int (nI (fm_z s0)), .int (nI (fm_h s0))])), (wa, .inl (cI, 2048, .inl (w))), (sa, .inl (cI, 10, .inl (st))), (la, .inl (cI, 10, .inl (ln))), (ou, .inl (cL, 1, .inr (.inl (vp_updL ov (nI (0)).toNatClampNeg ((fm_par B s0 i).toInt64)))))] := hD
  rw [nI_clamp (show 0 < 2 ^ 31 by omega)] at hP hD
  have hP : va_P (dC, dI) classes [(h, .inr (3, [.ref bf, .ref li, .ref ra, .int (rl), .ref o, .ref sp, .int (nI (1))])), (o, .inr (1, [.ref wa, .ref sa, .ref la, .int (nI (fm_HF B 2)), .int (nI (fm_HF B 3)), .int (nI (s0)), .int (nI (fm_z s0)), .int (nI (fm_h s0))])), (wa, .inl (cI, 2048, .inl (w))), (sa, .inl (cI, 10, .inl (st))), (la, .inl (cI, 10, .inl (ln))), (ou, .inl (cL, 1, .inr (.inl (vp_updL ov (0) ((fm_par B s0 i).toInt64)))))] _ := hP
  have hD : va_D A [(h, .inr (3, [.ref bf, .ref li, .ref ra, .int (rl), .ref o, .ref sp, .int (nI (1))])), (o, .inr (1, [.ref wa, .ref sa, .ref la, .int (nI (fm_HF B 2)), .int (nI (fm_HF B 3)), .int (nI (s0)), .int (nI (fm_z s0)), .int (nI (fm_h s0))])), (wa, .inl (cI, 2048, .inl (w))), (sa, .inl (cI, 10, .inl (st))), (la, .inl (cI, 10, .inl (ln))), (ou, .inl (cL, 1, .inr (.inl (vp_updL ov (0) ((fm_par B s0 i).toInt64)))))] := hD
  refine lv_goto (tgt := 18) hx hb d_LW_parameter_9 (by decide) ?_
  refine lv_iconst (v := nI (0)) hx hb d_LW_parameter_18 (by decide) ?_
  exact W.iret hx hb hr (fun t ht hW => ⟨congrArg (fun z => Outcome.returned (some (Value.int z))) (rfl), by rw [ht]; exact hP, hS.F ht⟩) hS.2.2 d_LW_parameter_19
theorem d_LW_ask_0 : decode b_LW_ask 0 = .ok (.aload_n 3, 1) := by decide +kernel
theorem d_LW_ask_1 : decode b_LW_ask 1 = .ok (.iconst 0, 1) := by decide +kernel
theorem d_LW_ask_2 : decode b_LW_ask 2 = .ok (.aload_n 0, 1) := by decide +kernel
theorem d_LW_ask_3 : decode b_LW_ask 3 = .ok (.iload_n 1, 1) := by decide +kernel
theorem d_LW_ask_4 : decode b_LW_ask 4 = .ok (.iload_n 2, 1) := by decide +kernel
theorem d_LW_ask_5 : decode b_LW_ask 5 = .ok (.invokevirtual 32, 3) := by decide +kernel
theorem d_LW_ask_8 : decode b_LW_ask 8 = .ok (.i2l, 1) := by decide +kernel
theorem d_LW_ask_9 : decode b_LW_ask 9 = .ok (.lastore, 1) := by decide +kernel
theorem d_LW_ask_10 : decode b_LW_ask 10 = .ok (.goto 11, 3) := by decide +kernel
theorem d_LW_ask_13 : decode b_LW_ask 13 = .ok (.astore 4, 2) := by decide +kernel
theorem d_LW_ask_15 : decode b_LW_ask 15 = .ok (.iconst 1, 1) := by decide +kernel
theorem d_LW_ask_16 : decode b_LW_ask 16 = .ok (.ireturn, 1) := by decide +kernel
theorem d_LW_ask_17 : decode b_LW_ask 17 = .ok (.astore 4, 2) := by decide +kernel
theorem d_LW_ask_19 : decode b_LW_ask 19 = .ok (.iconst 2, 1) := by decide +kernel
theorem d_LW_ask_20 : decode b_LW_ask 20 = .ok (.ireturn, 1) := by decide +kernel
theorem d_LW_ask_21 : decode b_LW_ask 21 = .ok (.iconst 0, 1) := by decide +kernel
theorem d_LW_ask_22 : decode b_LW_ask 22 = .ok (.ireturn, 1) := by decide +kernel
set_option maxHeartbeats 4000000 in
set_option maxRecDepth 100000 in
theorem c_LW_askY (l : Launch) (dC : Nat → ClassId) (dI : Nat → Nat → Nat) (h : Nat) (bf : Nat) (li : Nat) (ra : Nat) (rl : Int32) (o : Nat) (sp : Nat) (wa : Nat) (sa : Nat) (la : Nat) (s0 : Nat) (cI : ClassId) (B : Nat → Nat) (w : Nat → Int32) (st : Nat → Int32) (ln : Nat → Int32) (c : Nat) (r : Nat) (ou : Nat) (cL : ClassId) (ov : Nat → Int64) (hF : fm_FO B w st ln) (hV : fm_V B) (hxx : c = 256 ∨ fm_th B c = true) (hrr : r = 256 ∨ fm_th B r = true) : fm_MW l (dC, dI) y_LW_ask w_LW_ask ({ frames := 6, cells := 0, slots := 0, locals := 129 }) [.ref h, .int (nI (c)), .int (nI (r)), .ref ou] [(h, .inr (3, [.ref bf, .ref li, .ref ra, .int (rl), .ref o, .ref sp, .int (nI (1))])), (o, .inr (1, [.ref wa, .ref sa, .ref la, .int (nI (fm_HF B 2)), .int (nI (fm_HF B 3)), .int (nI (s0)), .int (nI (fm_z s0)), .int (nI (fm_h s0))])), (wa, .inl (cI, 2048, .inl (w))), (sa, .inl (cI, 10, .inl (st))), (la, .inl (cI, 10, .inl (ln))), (ou, .inl (cL, 1, .inr (.inl (ov))))] [(h, .inr (3, [.ref bf, .ref li, .ref ra, .int (rl), .ref o, .ref sp, .int (nI (1))])), (o, .inr (1, [.ref wa, .ref sa, .ref la, .int (nI (fm_HF B 2)), .int (nI (fm_HF B 3)), .int (nI (s0)), .int (nI (fm_z s0)), .int (nI (fm_h s0))])), (wa, .inl (cI, 2048, .inl (w))), (sa, .inl (cI, 10, .inl (st))), (la, .inl (cI, 10, .inl (ln))), (ou, .inl (cL, 1, .inr (.inl (vp_updL ov 0 ((fm_say B c r).toInt64)))))] [(cI, .int), (cL, .long)] (some (.int (nI (0)))) := by
  refine va_MetW (cc := b_LW_ask) (maxL := 5) (ret := (some .int)) (by decide) rfl ?_
  intro pg ev s m args below meth cd s₁ BD hml hv
  obtain ⟨rfl, hP, hK, hD0⟩ := hv
  have hx := BD.exec
  have hb := BD.bytes
  have hr := BD.returns
  have hts := atoms_spec (ws := w_LW_ask) BD.pre
  have ht : ∀ w ∈ fm_T, w.before _ s = true := fun w h => hts w (List.mem_cons_of_mem _ h)
  have hown : s.vm.findClass R_LW = some m.cls := findClass_of_methodNamed BD.named
  have hlocks := BD.notSynchronized
  have S : CallFix pg m cd b_LW_ask 5 s _ w_LW_ask R_LW := ⟨hx, hb, hml, hown, hts⟩
  have hD := fm_selfD hD0
  generalize fm_A [(h, .inr (3, [.ref bf, .ref li, .ref ra, .int (rl), .ref o, .ref sp, .int (nI (1))])), (o, .inr (1, [.ref wa, .ref sa, .ref la, .int (nI (fm_HF B 2)), .int (nI (fm_HF B 3)), .int (nI (s0)), .int (nI (fm_z s0)), .int (nI (fm_h s0))])), (wa, .inl (cI, 2048, .inl (w))), (sa, .inl (cI, 10, .inl (st))), (la, .inl (cI, 10, .inl (ln))), (ou, .inl (cL, 1, .inr (.inl (ov))))] = A at hD ⊢
  have hS : va_S A s.heap s.heap [] := va_S.rf
  have hl := lv_entry ([.ref h, .int (nI (c)), .int (nI (r)), .ref ou]) (n := 5) (Nat.le_of_ble_eq_true rfl)
  rw [lg_entry_eq]
  generalize (lg_sl ([.ref h, .int (nI (c)), .int (nI (r)), .ref ou]) ++ List.replicate (5 - (lg_sl ([.ref h, .int (nI (c)), .int (nI (r)), .ref ou])).length) Slot.unset).toArray = ls at hl ⊢
  have hl : lv_has ls 5 [(0, .ref h), (1, .int (nI (c))), (2, .int (nI (r))), (3, .ref ou)] := hl
  refine lv_aload_n hx hb d_LW_ask_0 rfl (lv_at hl 3 rfl) ?_
  refine lv_iconst (v := nI (0)) hx hb d_LW_ask_1 (by decide) ?_
  refine lv_aload_n hx hb d_LW_ask_2 rfl (lv_at hl 0 rfl) ?_
  refine lv_iload_n hx hb d_LW_ask_3 rfl (lv_at hl 1 rfl) ?_
  refine lv_iload_n hx hb d_LW_ask_4 rfl (lv_at hl 2 rfl) ?_
  refine fm_cv S (c_FM_ask l dC dI h bf li ra rl o sp wa sa la s0 cI B w st ln c r (hF) (hV) (hxx) (hrr)) rfl rfl k_FM_ask q_3_9 ⟨Nat.le_of_ble_eq_true rfl, Nat.le_of_ble_eq_true rfl⟩ (hP.sub [0, 1, 2, 3, 4] rfl) (hK.sub [0] rfl) 0 rfl rfl rfl hl.1 rfl (Nat.le_of_ble_eq_true rfl) ⟨Nat.zero_le _, Nat.zero_le _⟩ d_LW_ask_5 ?_
  refine lv_i2l (v := (fm_say B c r).toInt64) hx hb d_LW_ask_8 (rfl) ?_
  refine va_last hx hb hK hP hD hS 5 1 rfl rfl (vp_in_nI (by omega) (by omega)) d_LW_ask_9 (fun H locs hP hD hS => ?_)
  have hP : va_P (dC, dI) classes [(h, .inr (3, [.ref bf, .ref li, .ref ra, .int (rl), .ref o, .ref sp, .int (nI (1))])), (o, .inr (1, [.ref wa, .ref sa, .ref la, .int (nI (fm_HF B 2)), .int (nI (fm_HF B 3)), .int (nI (s0)), .int (nI (fm_z s0)), .int (nI (fm_h s0))])), (wa, .inl (cI, 2048, .inl (w))), (sa, .inl (cI, 10, .inl (st))), (la, .inl (cI, 10, .inl (ln))), (ou, .inl (cL, 1, .inr (.inl (vp_updL ov (nI (0)).toNatClampNeg ((fm_say B c r).toInt64)))))] _ := hP
  have hD : va_D A [(h, .inr (3, [.ref bf, .ref li, .ref ra, .int (rl), .ref o, .ref sp, .int (nI (1))])), (o, .inr (1, [.ref wa, .ref sa, .ref la, .int (nI (fm_HF B 2)), .int (nI (fm_HF B 3)), .int (nI (s0)), .int (nI (fm_z s0)), .int (nI (fm_h s0))])), (wa, .inl (cI, 2048, .inl (w))), (sa, .inl (cI, 10, .inl (st))), (la, .inl (cI, 10, .inl (ln))), (ou, .inl (cL, 1, .inr (.inl (vp_updL ov (nI (0)).toNatClampNeg ((fm_say B c r).toInt64)))))] := hD
  rw [nI_clamp (show 0 < 2 ^ 31 by omega)] at hP hD
  have hP : va_P (dC, dI) classes [(h, .inr (3, [.ref bf, .ref li, .ref ra, .int (rl), .ref o, .ref sp, .int (nI (1))])), (o, .inr (1, [.ref wa, .ref sa, .ref la, .int (nI (fm_HF B 2)), .int (nI (fm_HF B 3)), .int (nI (s0)), .int (nI (fm_z s0)), .int (nI (fm_h s0))])), (wa, .inl (cI, 2048, .inl (w))), (sa, .inl (cI, 10, .inl (st))), (la, .inl (cI, 10, .inl (ln))), (ou, .inl (cL, 1, .inr (.inl (vp_updL ov (0) ((fm_say B c r).toInt64)))))] _ := hP
  have hD : va_D A [(h, .inr (3, [.ref bf, .ref li, .ref ra, .int (rl), .ref o, .ref sp, .int (nI (1))])), (o, .inr (1, [.ref wa, .ref sa, .ref la, .int (nI (fm_HF B 2)), .int (nI (fm_HF B 3)), .int (nI (s0)), .int (nI (fm_z s0)), .int (nI (fm_h s0))])), (wa, .inl (cI, 2048, .inl (w))), (sa, .inl (cI, 10, .inl (st))), (la, .inl (cI, 10, .inl (ln))), (ou, .inl (cL, 1, .inr (.inl (vp_updL ov (0) ((fm_say B c r).toInt64)))))] := hD
  refine lv_goto (tgt := 21) hx hb d_LW_ask_10 (by decide) ?_
  refine lv_iconst (v := nI (0)) hx hb d_LW_ask_21 (by decide) ?_
  exact W.iret hx hb hr (fun t ht hW => ⟨congrArg (fun z => Outcome.returned (some (Value.int z))) (rfl), by rw [ht]; exact hP, hS.F ht⟩) hS.2.2 d_LW_ask_22
theorem d_LW_item_0 : decode b_LW_item 0 = .ok (.aload_n 2, 1) := by decide +kernel
theorem d_LW_item_1 : decode b_LW_item 1 = .ok (.iconst 0, 1) := by decide +kernel
theorem d_LW_item_2 : decode b_LW_item 2 = .ok (.aload_n 0, 1) := by decide +kernel
theorem d_LW_item_3 : decode b_LW_item 3 = .ok (.iload_n 1, 1) := by decide +kernel
theorem d_LW_item_4 : decode b_LW_item 4 = .ok (.invokevirtual 43, 3) := by decide +kernel
theorem d_LW_item_7 : decode b_LW_item 7 = .ok (.i2l, 1) := by decide +kernel
theorem d_LW_item_8 : decode b_LW_item 8 = .ok (.lastore, 1) := by decide +kernel
theorem d_LW_item_9 : decode b_LW_item 9 = .ok (.goto 6, 3) := by decide +kernel
theorem d_LW_item_12 : decode b_LW_item 12 = .ok (.astore_n 3, 1) := by decide +kernel
theorem d_LW_item_13 : decode b_LW_item 13 = .ok (.iconst 1, 1) := by decide +kernel
theorem d_LW_item_14 : decode b_LW_item 14 = .ok (.ireturn, 1) := by decide +kernel
theorem d_LW_item_15 : decode b_LW_item 15 = .ok (.iconst 0, 1) := by decide +kernel
theorem d_LW_item_16 : decode b_LW_item 16 = .ok (.ireturn, 1) := by decide +kernel
set_option maxHeartbeats 4000000 in
set_option maxRecDepth 100000 in
theorem c_LW_itemY (l : Launch) (dC : Nat → ClassId) (dI : Nat → Nat → Nat) (h : Nat) (bf : Nat) (li : Nat) (ra : Nat) (rl : Int32) (o : Nat) (sp : Nat) (ld : Int32) (pa : Nat) (va : Nat) (na : Nat) (le : Int32) (cn : Nat) (cI : ClassId) (vl : Nat → Int32) (i : Nat) (ou : Nat) (cL : ClassId) (ov : Nat → Int64) (hcn : cn ≤ 1066) (hi : i < cn) : fm_MW l (dC, dI) y_LW_item w_LW_item ({ frames := 2, cells := 0, slots := 0, locals := 42 }) [.ref h, .int (nI (i)), .ref ou] [(h, .inr (3, [.ref bf, .ref li, .ref ra, .int (rl), .ref o, .ref sp, .int (ld)])), (li, .inr (2, [.ref pa, .ref va, .ref na, .int (le), .int (nI (cn))])), (va, .inl (cI, 1066, .inl (vl))), (ou, .inl (cL, 1, .inr (.inl (ov))))] [(h, .inr (3, [.ref bf, .ref li, .ref ra, .int (rl), .ref o, .ref sp, .int (ld)])), (li, .inr (2, [.ref pa, .ref va, .ref na, .int (le), .int (nI (cn))])), (va, .inl (cI, 1066, .inl (vl))), (ou, .inl (cL, 1, .inr (.inl (vp_updL ov 0 ((vl i).toInt64)))))] [(cI, .int), (cL, .long)] (some (.int (nI (0)))) := by
  refine va_MetW (cc := b_LW_item) (maxL := 4) (ret := (some .int)) (by decide) rfl ?_
  intro pg ev s m args below meth cd s₁ BD hml hv
  obtain ⟨rfl, hP, hK, hD0⟩ := hv
  have hx := BD.exec
  have hb := BD.bytes
  have hr := BD.returns
  have hts := atoms_spec (ws := w_LW_item) BD.pre
  have ht : ∀ w ∈ fm_T, w.before _ s = true := fun w h => hts w (List.mem_cons_of_mem _ h)
  have hown : s.vm.findClass R_LW = some m.cls := findClass_of_methodNamed BD.named
  have hlocks := BD.notSynchronized
  have S : CallFix pg m cd b_LW_item 4 s _ w_LW_item R_LW := ⟨hx, hb, hml, hown, hts⟩
  have hD := fm_selfD hD0
  generalize fm_A [(h, .inr (3, [.ref bf, .ref li, .ref ra, .int (rl), .ref o, .ref sp, .int (ld)])), (li, .inr (2, [.ref pa, .ref va, .ref na, .int (le), .int (nI (cn))])), (va, .inl (cI, 1066, .inl (vl))), (ou, .inl (cL, 1, .inr (.inl (ov))))] = A at hD ⊢
  have hS : va_S A s.heap s.heap [] := va_S.rf
  have hl := lv_entry ([.ref h, .int (nI (i)), .ref ou]) (n := 4) (Nat.le_of_ble_eq_true rfl)
  rw [lg_entry_eq]
  generalize (lg_sl ([.ref h, .int (nI (i)), .ref ou]) ++ List.replicate (4 - (lg_sl ([.ref h, .int (nI (i)), .ref ou])).length) Slot.unset).toArray = ls at hl ⊢
  have hl : lv_has ls 4 [(0, .ref h), (1, .int (nI (i))), (2, .ref ou)] := hl
  refine lv_aload_n hx hb d_LW_item_0 rfl (lv_at hl 2 rfl) ?_
  refine lv_iconst (v := nI (0)) hx hb d_LW_item_1 (by decide) ?_
  refine lv_aload_n hx hb d_LW_item_2 rfl (lv_at hl 0 rfl) ?_
  refine lv_iload_n hx hb d_LW_item_3 rfl (lv_at hl 1 rfl) ?_
  refine fm_cv S (c_FM_item l dC dI h bf li ra rl o sp ld pa va na le cn cI vl i (hcn) (hi)) rfl rfl k_FM_item q_3_102 ⟨Nat.le_of_ble_eq_true rfl, Nat.le_of_ble_eq_true rfl⟩ (hP.sub [0, 1, 2] rfl) (hK.sub [0] rfl) 0 rfl rfl rfl hl.1 rfl (Nat.le_of_ble_eq_true rfl) ⟨Nat.zero_le _, Nat.zero_le _⟩ d_LW_item_4 ?_
  refine lv_i2l (v := (vl i).toInt64) hx hb d_LW_item_7 (rfl) ?_
  refine va_last hx hb hK hP hD hS 3 1 rfl rfl (vp_in_nI (by omega) (by omega)) d_LW_item_8 (fun H locs hP hD hS => ?_)
  have hP : va_P (dC, dI) classes [(h, .inr (3, [.ref bf, .ref li, .ref ra, .int (rl), .ref o, .ref sp, .int (ld)])), (li, .inr (2, [.ref pa, .ref va, .ref na, .int (le), .int (nI (cn))])), (va, .inl (cI, 1066, .inl (vl))), (ou, .inl (cL, 1, .inr (.inl (vp_updL ov (nI (0)).toNatClampNeg ((vl i).toInt64)))))] _ := hP
  have hD : va_D A [(h, .inr (3, [.ref bf, .ref li, .ref ra, .int (rl), .ref o, .ref sp, .int (ld)])), (li, .inr (2, [.ref pa, .ref va, .ref na, .int (le), .int (nI (cn))])), (va, .inl (cI, 1066, .inl (vl))), (ou, .inl (cL, 1, .inr (.inl (vp_updL ov (nI (0)).toNatClampNeg ((vl i).toInt64)))))] := hD
  rw [nI_clamp (show 0 < 2 ^ 31 by omega)] at hP hD
  have hP : va_P (dC, dI) classes [(h, .inr (3, [.ref bf, .ref li, .ref ra, .int (rl), .ref o, .ref sp, .int (ld)])), (li, .inr (2, [.ref pa, .ref va, .ref na, .int (le), .int (nI (cn))])), (va, .inl (cI, 1066, .inl (vl))), (ou, .inl (cL, 1, .inr (.inl (vp_updL ov (0) ((vl i).toInt64)))))] _ := hP
  have hD : va_D A [(h, .inr (3, [.ref bf, .ref li, .ref ra, .int (rl), .ref o, .ref sp, .int (ld)])), (li, .inr (2, [.ref pa, .ref va, .ref na, .int (le), .int (nI (cn))])), (va, .inl (cI, 1066, .inl (vl))), (ou, .inl (cL, 1, .inr (.inl (vp_updL ov (0) ((vl i).toInt64)))))] := hD
  refine lv_goto (tgt := 15) hx hb d_LW_item_9 (by decide) ?_
  refine lv_iconst (v := nI (0)) hx hb d_LW_item_15 (by decide) ?_
  exact W.iret hx hb hr (fun t ht hW => ⟨congrArg (fun z => Outcome.returned (some (Value.int z))) (rfl), by rw [ht]; exact hP, hS.F ht⟩) hS.2.2 d_LW_item_16
theorem d_LW_isKern_0 : decode b_LW_isKern 0 = .ok (.aload_n 2, 1) := by decide +kernel
theorem d_LW_isKern_1 : decode b_LW_isKern 1 = .ok (.iconst 0, 1) := by decide +kernel
theorem d_LW_isKern_2 : decode b_LW_isKern 2 = .ok (.aload_n 0, 1) := by decide +kernel
theorem d_LW_isKern_3 : decode b_LW_isKern 3 = .ok (.iload_n 1, 1) := by decide +kernel
theorem d_LW_isKern_4 : decode b_LW_isKern 4 = .ok (.invokevirtual 39, 3) := by decide +kernel
theorem d_LW_isKern_7 : decode b_LW_isKern 7 = .ok (.ifCond .eq 7, 3) := by decide +kernel
theorem d_LW_isKern_10 : decode b_LW_isKern 10 = .ok (.lconst 1, 1) := by decide +kernel
theorem d_LW_isKern_11 : decode b_LW_isKern 11 = .ok (.goto 4, 3) := by decide +kernel
theorem d_LW_isKern_14 : decode b_LW_isKern 14 = .ok (.lconst 0, 1) := by decide +kernel
theorem d_LW_isKern_15 : decode b_LW_isKern 15 = .ok (.lastore, 1) := by decide +kernel
theorem d_LW_isKern_16 : decode b_LW_isKern 16 = .ok (.goto 6, 3) := by decide +kernel
theorem d_LW_isKern_19 : decode b_LW_isKern 19 = .ok (.astore_n 3, 1) := by decide +kernel
theorem d_LW_isKern_20 : decode b_LW_isKern 20 = .ok (.iconst 1, 1) := by decide +kernel
theorem d_LW_isKern_21 : decode b_LW_isKern 21 = .ok (.ireturn, 1) := by decide +kernel
theorem d_LW_isKern_22 : decode b_LW_isKern 22 = .ok (.iconst 0, 1) := by decide +kernel
theorem d_LW_isKern_23 : decode b_LW_isKern 23 = .ok (.ireturn, 1) := by decide +kernel
set_option maxHeartbeats 4000000 in
set_option maxRecDepth 100000 in
theorem c_LW_isKernY (l : Launch) (dC : Nat → ClassId) (dI : Nat → Nat → Nat) (h : Nat) (bf : Nat) (li : Nat) (ra : Nat) (rl : Int32) (o : Nat) (sp : Nat) (ld : Int32) (pa : Nat) (va : Nat) (na : Nat) (le : Int32) (cn : Nat) (cZ : ClassId) (kn : Nat → Int32) (i : Nat) (ou : Nat) (cL : ClassId) (ov : Nat → Int64) (hcn : cn ≤ 1066) (hi : i < cn) : fm_MW l (dC, dI) y_LW_isKern w_LW_isKern ({ frames := 2, cells := 0, slots := 0, locals := 42 }) [.ref h, .int (nI (i)), .ref ou] [(h, .inr (3, [.ref bf, .ref li, .ref ra, .int (rl), .ref o, .ref sp, .int (ld)])), (li, .inr (2, [.ref pa, .ref va, .ref na, .int (le), .int (nI (cn))])), (na, .inl (cZ, 1066, .inl (kn))), (ou, .inl (cL, 1, .inr (.inl (ov))))] [(h, .inr (3, [.ref bf, .ref li, .ref ra, .int (rl), .ref o, .ref sp, .int (ld)])), (li, .inr (2, [.ref pa, .ref va, .ref na, .int (le), .int (nI (cn))])), (na, .inl (cZ, 1066, .inl (kn))), (ou, .inl (cL, 1, .inr (.inl (vp_updL ov 0 (fm_bL (decide (kn i ≠ 0)))))))] [(cZ, .boolean), (cL, .long)] (some (.int (nI (0)))) := by
  refine va_MetW (cc := b_LW_isKern) (maxL := 4) (ret := (some .int)) (by decide) rfl ?_
  intro pg ev s m args below meth cd s₁ BD hml hv
  obtain ⟨rfl, hP, hK, hD0⟩ := hv
  have hx := BD.exec
  have hb := BD.bytes
  have hr := BD.returns
  have hts := atoms_spec (ws := w_LW_isKern) BD.pre
  have ht : ∀ w ∈ fm_T, w.before _ s = true := fun w h => hts w (List.mem_cons_of_mem _ h)
  have hown : s.vm.findClass R_LW = some m.cls := findClass_of_methodNamed BD.named
  have hlocks := BD.notSynchronized
  have S : CallFix pg m cd b_LW_isKern 4 s _ w_LW_isKern R_LW := ⟨hx, hb, hml, hown, hts⟩
  have hD := fm_selfD hD0
  generalize fm_A [(h, .inr (3, [.ref bf, .ref li, .ref ra, .int (rl), .ref o, .ref sp, .int (ld)])), (li, .inr (2, [.ref pa, .ref va, .ref na, .int (le), .int (nI (cn))])), (na, .inl (cZ, 1066, .inl (kn))), (ou, .inl (cL, 1, .inr (.inl (ov))))] = A at hD ⊢
  have hS : va_S A s.heap s.heap [] := va_S.rf
  have hl := lv_entry ([.ref h, .int (nI (i)), .ref ou]) (n := 4) (Nat.le_of_ble_eq_true rfl)
  rw [lg_entry_eq]
  generalize (lg_sl ([.ref h, .int (nI (i)), .ref ou]) ++ List.replicate (4 - (lg_sl ([.ref h, .int (nI (i)), .ref ou])).length) Slot.unset).toArray = ls at hl ⊢
  have hl : lv_has ls 4 [(0, .ref h), (1, .int (nI (i))), (2, .ref ou)] := hl
  refine lv_aload_n hx hb d_LW_isKern_0 rfl (lv_at hl 2 rfl) ?_
  refine lv_iconst (v := nI (0)) hx hb d_LW_isKern_1 (by decide) ?_
  refine lv_aload_n hx hb d_LW_isKern_2 rfl (lv_at hl 0 rfl) ?_
  refine lv_iload_n hx hb d_LW_isKern_3 rfl (lv_at hl 1 rfl) ?_
  refine fm_cv S (c_FM_isKern l dC dI h bf li ra rl o sp ld pa va na le cn cZ kn i (hcn) (hi)) rfl rfl k_FM_isKern q_3_89 ⟨Nat.le_of_ble_eq_true rfl, Nat.le_of_ble_eq_true rfl⟩ (hP.sub [0, 1, 2] rfl) (hK.sub [0] rfl) 0 rfl rfl rfl hl.1 rfl (Nat.le_of_ble_eq_true rfl) ⟨Nat.zero_le _, Nat.zero_le _⟩ d_LW_isKern_4 ?_
  refine lv_if_eq (tgt := 14) hx hb d_LW_isKern_7 (by decide) (fun c0 => ?_) (fun c0 => ?_)
  · have c_7 : (decide (kn i ≠ 0)) = false := fm_bI_f c0
    refine lv_lconst (v := 0) hx hb d_LW_isKern_14 (by decide) ?_
    refine va_last hx hb hK hP hD hS 3 1 rfl rfl (vp_in_nI (by omega) (by omega)) d_LW_isKern_15 (fun H locs hP hD hS => ?_)
    have hP : va_P (dC, dI) classes [(h, .inr (3, [.ref bf, .ref li, .ref ra, .int (rl), .ref o, .ref sp, .int (ld)])), (li, .inr (2, [.ref pa, .ref va, .ref na, .int (le), .int (nI (cn))])), (na, .inl (cZ, 1066, .inl (kn))), (ou, .inl (cL, 1, .inr (.inl (vp_updL ov (nI (0)).toNatClampNeg (0)))))] _ := hP
    have hD : va_D A [(h, .inr (3, [.ref bf, .ref li, .ref ra, .int (rl), .ref o, .ref sp, .int (ld)])), (li, .inr (2, [.ref pa, .ref va, .ref na, .int (le), .int (nI (cn))])), (na, .inl (cZ, 1066, .inl (kn))), (ou, .inl (cL, 1, .inr (.inl (vp_updL ov (nI (0)).toNatClampNeg (0)))))] := hD
    rw [nI_clamp (show 0 < 2 ^ 31 by omega)] at hP hD
    have hP : va_P (dC, dI) classes [(h, .inr (3, [.ref bf, .ref li, .ref ra, .int (rl), .ref o, .ref sp, .int (ld)])), (li, .inr (2, [.ref pa, .ref va, .ref na, .int (le), .int (nI (cn))])), (na, .inl (cZ, 1066, .inl (kn))), (ou, .inl (cL, 1, .inr (.inl (vp_updL ov (0) (0)))))] _ := hP
    have hD : va_D A [(h, .inr (3, [.ref bf, .ref li, .ref ra, .int (rl), .ref o, .ref sp, .int (ld)])), (li, .inr (2, [.ref pa, .ref va, .ref na, .int (le), .int (nI (cn))])), (na, .inl (cZ, 1066, .inl (kn))), (ou, .inl (cL, 1, .inr (.inl (vp_updL ov (0) (0)))))] := hD
    refine lv_goto (tgt := 22) hx hb d_LW_isKern_16 (by decide) ?_
    refine lv_iconst (v := nI (0)) hx hb d_LW_isKern_22 (by decide) ?_
    exact W.iret hx hb hr (fun t ht hW => ⟨congrArg (fun z => Outcome.returned (some (Value.int z))) (rfl), by rw [ht]; exact (show va_P (dC, dI) classes _ _ by rw [show fm_bL (decide (kn i ≠ 0)) = 0 by rw [c_7]; rfl]; exact hP), hS.F ht⟩) hS.2.2 d_LW_isKern_23
  · have c_7 : (decide (kn i ≠ 0)) = true := fm_bI_t c0
    refine lv_lconst (v := 1) hx hb d_LW_isKern_10 (by decide) ?_
    refine lv_goto (tgt := 15) hx hb d_LW_isKern_11 (by decide) ?_
    refine va_last hx hb hK hP hD hS 3 1 rfl rfl (vp_in_nI (by omega) (by omega)) d_LW_isKern_15 (fun H locs hP hD hS => ?_)
    have hP : va_P (dC, dI) classes [(h, .inr (3, [.ref bf, .ref li, .ref ra, .int (rl), .ref o, .ref sp, .int (ld)])), (li, .inr (2, [.ref pa, .ref va, .ref na, .int (le), .int (nI (cn))])), (na, .inl (cZ, 1066, .inl (kn))), (ou, .inl (cL, 1, .inr (.inl (vp_updL ov (nI (0)).toNatClampNeg (1)))))] _ := hP
    have hD : va_D A [(h, .inr (3, [.ref bf, .ref li, .ref ra, .int (rl), .ref o, .ref sp, .int (ld)])), (li, .inr (2, [.ref pa, .ref va, .ref na, .int (le), .int (nI (cn))])), (na, .inl (cZ, 1066, .inl (kn))), (ou, .inl (cL, 1, .inr (.inl (vp_updL ov (nI (0)).toNatClampNeg (1)))))] := hD
    rw [nI_clamp (show 0 < 2 ^ 31 by omega)] at hP hD
    have hP : va_P (dC, dI) classes [(h, .inr (3, [.ref bf, .ref li, .ref ra, .int (rl), .ref o, .ref sp, .int (ld)])), (li, .inr (2, [.ref pa, .ref va, .ref na, .int (le), .int (nI (cn))])), (na, .inl (cZ, 1066, .inl (kn))), (ou, .inl (cL, 1, .inr (.inl (vp_updL ov (0) (1)))))] _ := hP
    have hD : va_D A [(h, .inr (3, [.ref bf, .ref li, .ref ra, .int (rl), .ref o, .ref sp, .int (ld)])), (li, .inr (2, [.ref pa, .ref va, .ref na, .int (le), .int (nI (cn))])), (na, .inl (cZ, 1066, .inl (kn))), (ou, .inl (cL, 1, .inr (.inl (vp_updL ov (0) (1)))))] := hD
    refine lv_goto (tgt := 22) hx hb d_LW_isKern_16 (by decide) ?_
    refine lv_iconst (v := nI (0)) hx hb d_LW_isKern_22 (by decide) ?_
    exact W.iret hx hb hr (fun t ht hW => ⟨congrArg (fun z => Outcome.returned (some (Value.int z))) (rfl), by rw [ht]; exact (show va_P (dC, dI) classes _ _ by rw [show fm_bL (decide (kn i ≠ 0)) = 1 by rw [c_7]; rfl]; exact hP), hS.F ht⟩) hS.2.2 d_LW_isKern_23
theorem d_LW_load_0 : decode b_LW_load 0 = .ok (.aload_n 2, 1) := by decide +kernel
theorem d_LW_load_1 : decode b_LW_load 1 = .ok (.iconst 0, 1) := by decide +kernel
theorem d_LW_load_2 : decode b_LW_load 2 = .ok (.aload_n 0, 1) := by decide +kernel
theorem d_LW_load_3 : decode b_LW_load 3 = .ok (.iload_n 1, 1) := by decide +kernel
theorem d_LW_load_4 : decode b_LW_load 4 = .ok (.invokevirtual 7, 3) := by decide +kernel
theorem d_LW_load_7 : decode b_LW_load 7 = .ok (.i2l, 1) := by decide +kernel
theorem d_LW_load_8 : decode b_LW_load 8 = .ok (.lastore, 1) := by decide +kernel
theorem d_LW_load_9 : decode b_LW_load 9 = .ok (.goto 6, 3) := by decide +kernel
theorem d_LW_load_12 : decode b_LW_load 12 = .ok (.astore_n 3, 1) := by decide +kernel
theorem d_LW_load_13 : decode b_LW_load 13 = .ok (.iconst 1, 1) := by decide +kernel
theorem d_LW_load_14 : decode b_LW_load 14 = .ok (.ireturn, 1) := by decide +kernel
theorem d_LW_load_15 : decode b_LW_load 15 = .ok (.iconst 0, 1) := by decide +kernel
theorem d_LW_load_16 : decode b_LW_load 16 = .ok (.ireturn, 1) := by decide +kernel
set_option maxHeartbeats 4000000 in
set_option maxRecDepth 100000 in
theorem c_LW_loadF (l : Launch) (dC : Nat → ClassId) (dI : Nat → Nat → Nat) (h : Nat) (bf : Nat) (li : Nat) (ra : Nat) (rl : Int32) (o : Nat) (sp : Nat) (ld : Int32) (ba : Nat) (n : Nat) (cI : ClassId) (b : Nat → Int32) (wb : Nat) (sb : Nat) (lb : Nat) (bc2 : Int32) (ec2 : Int32) (sz2 : Int32) (sc2 : Int32) (hv2 : Int32) (w2 : Nat → Int32) (st2 : Nat → Int32) (ln2 : Nat → Int32) (B : Nat → Nat) (a : Nat) (ou : Nat) (cL : ClassId) (ov : Nat → Int64) (hn : n ≤ 8192) (ha : a ≤ 134217727) (hB : ∀ i, B i < 256) (hFl : fm_Fl b B n) (hft : fm_fault B n ≠ 0) : fm_MW l (dC, dI) y_LW_load w_LW_load ({ frames := 7, cells := 0, slots := 0, locals := 156 }) [.ref h, .int (nI (a)), .ref ou] [(h, .inr (3, [.ref bf, .ref li, .ref ra, .int (rl), .ref o, .ref sp, .int (ld)])), (bf, .inr (0, [.ref ba, .int (nI (n))])), (ba, .inl (cI, 2048, .inl (b))), (sp, .inr (1, [.ref wb, .ref sb, .ref lb, .int (bc2), .int (ec2), .int (sz2), .int (sc2), .int (hv2)])), (wb, .inl (cI, 2048, .inl (w2))), (sb, .inl (cI, 10, .inl (st2))), (lb, .inl (cI, 10, .inl (ln2))), (ou, .inl (cL, 1, .inr (.inl (ov))))] [(h, .inr (3, [.ref bf, .ref li, .ref ra, .int (rl), .ref o, .ref sp, .int (ld)])), (bf, .inr (0, [.ref ba, .int (nI (n))])), (ba, .inl (cI, 2048, .inl (b))), (sp, .inr (1, [.ref wb, .ref sb, .ref lb, .int (nI (fm_nb (fm_tk b w2) 2)), .int (nI (fm_nb (fm_tk b w2) 3)), .int (sz2), .int (sc2), .int (hv2)])), (wb, .inl (cI, 2048, .inl (fm_tk b w2))), (sb, .inl (cI, 10, .inl (fm_cp (fm_sI (fm_tk b w2)) st2 10))), (lb, .inl (cI, 10, .inl (fm_cp (fm_ln (fm_tk b w2)) ln2 10))), (ou, .inl (cL, 1, .inr (.inl (vp_updL ov 0 ((nI (fm_fault B n)).toInt64)))))] [(cI, .int), (cL, .long)] (some (.int (nI (0)))) := by
  refine va_MetW (cc := b_LW_load) (maxL := 4) (ret := (some .int)) (by decide) rfl ?_
  intro pg ev s m args below meth cd s₁ BD hml hv
  obtain ⟨rfl, hP, hK, hD0⟩ := hv
  have hx := BD.exec
  have hb := BD.bytes
  have hr := BD.returns
  have hts := atoms_spec (ws := w_LW_load) BD.pre
  have ht : ∀ w ∈ fm_T, w.before _ s = true := fun w h => hts w (List.mem_cons_of_mem _ h)
  have hown : s.vm.findClass R_LW = some m.cls := findClass_of_methodNamed BD.named
  have hlocks := BD.notSynchronized
  have S : CallFix pg m cd b_LW_load 4 s _ w_LW_load R_LW := ⟨hx, hb, hml, hown, hts⟩
  have hD := fm_selfD hD0
  generalize fm_A [(h, .inr (3, [.ref bf, .ref li, .ref ra, .int (rl), .ref o, .ref sp, .int (ld)])), (bf, .inr (0, [.ref ba, .int (nI (n))])), (ba, .inl (cI, 2048, .inl (b))), (sp, .inr (1, [.ref wb, .ref sb, .ref lb, .int (bc2), .int (ec2), .int (sz2), .int (sc2), .int (hv2)])), (wb, .inl (cI, 2048, .inl (w2))), (sb, .inl (cI, 10, .inl (st2))), (lb, .inl (cI, 10, .inl (ln2))), (ou, .inl (cL, 1, .inr (.inl (ov))))] = A at hD ⊢
  have hS : va_S A s.heap s.heap [] := va_S.rf
  have hl := lv_entry ([.ref h, .int (nI (a)), .ref ou]) (n := 4) (Nat.le_of_ble_eq_true rfl)
  rw [lg_entry_eq]
  generalize (lg_sl ([.ref h, .int (nI (a)), .ref ou]) ++ List.replicate (4 - (lg_sl ([.ref h, .int (nI (a)), .ref ou])).length) Slot.unset).toArray = ls at hl ⊢
  have hl : lv_has ls 4 [(0, .ref h), (1, .int (nI (a))), (2, .ref ou)] := hl
  refine lv_aload_n hx hb d_LW_load_0 rfl (lv_at hl 2 rfl) ?_
  refine lv_iconst (v := nI (0)) hx hb d_LW_load_1 (by decide) ?_
  refine lv_aload_n hx hb d_LW_load_2 rfl (lv_at hl 0 rfl) ?_
  refine lv_iload_n hx hb d_LW_load_3 rfl (lv_at hl 1 rfl) ?_
  refine fm_wv S (c_FM_loadF l dC dI h bf li ra rl o sp ld ba n cI b wb sb lb bc2 ec2 sz2 sc2 hv2 w2 st2 ln2 B a (hn) (ha) (hB) (hFl) (hft)) rfl rfl k_FM_load q_1_196 ⟨Nat.le_of_ble_eq_true rfl, Nat.le_of_ble_eq_true rfl⟩ hP hD hS (hK.sub [0] rfl) [0, 1, 2, 3, 4, 5, 6] (by decide) rfl 0 rfl rfl rfl hl.1 rfl (Nat.le_of_ble_eq_true rfl) ⟨Nat.zero_le _, Nat.zero_le _⟩ d_LW_load_4 [(h, .inr (3, [.ref bf, .ref li, .ref ra, .int (rl), .ref o, .ref sp, .int (ld)])), (bf, .inr (0, [.ref ba, .int (nI (n))])), (ba, .inl (cI, 2048, .inl (b))), (sp, .inr (1, [.ref wb, .ref sb, .ref lb, .int (nI (fm_nb (fm_tk b w2) 2)), .int (nI (fm_nb (fm_tk b w2) 3)), .int (sz2), .int (sc2), .int (hv2)])), (wb, .inl (cI, 2048, .inl (fm_tk b w2))), (sb, .inl (cI, 10, .inl (fm_cp (fm_sI (fm_tk b w2)) st2 10))), (lb, .inl (cI, 10, .inl (fm_cp (fm_ln (fm_tk b w2)) ln2 10))), (ou, .inl (cL, 1, .inr (.inl (ov))))] [7] rfl rfl (show ∀ i, i < 8 → i ∈ ([0, 1, 2, 3, 4, 5, 6] : List Nat) ∨ i ∈ ([7] : List Nat) by decide) (by decide) rfl (fun H locs hP hD hS => ?_)
  have hP : va_P (dC, dI) classes [(h, .inr (3, [.ref bf, .ref li, .ref ra, .int (rl), .ref o, .ref sp, .int (ld)])), (bf, .inr (0, [.ref ba, .int (nI (n))])), (ba, .inl (cI, 2048, .inl (b))), (sp, .inr (1, [.ref wb, .ref sb, .ref lb, .int (nI (fm_nb (fm_tk b w2) 2)), .int (nI (fm_nb (fm_tk b w2) 3)), .int (sz2), .int (sc2), .int (hv2)])), (wb, .inl (cI, 2048, .inl (fm_tk b w2))), (sb, .inl (cI, 10, .inl (fm_cp (fm_sI (fm_tk b w2)) st2 10))), (lb, .inl (cI, 10, .inl (fm_cp (fm_ln (fm_tk b w2)) ln2 10))), (ou, .inl (cL, 1, .inr (.inl (ov))))] _ := hP
  have hD : va_D A [(h, .inr (3, [.ref bf, .ref li, .ref ra, .int (rl), .ref o, .ref sp, .int (ld)])), (bf, .inr (0, [.ref ba, .int (nI (n))])), (ba, .inl (cI, 2048, .inl (b))), (sp, .inr (1, [.ref wb, .ref sb, .ref lb, .int (nI (fm_nb (fm_tk b w2) 2)), .int (nI (fm_nb (fm_tk b w2) 3)), .int (sz2), .int (sc2), .int (hv2)])), (wb, .inl (cI, 2048, .inl (fm_tk b w2))), (sb, .inl (cI, 10, .inl (fm_cp (fm_sI (fm_tk b w2)) st2 10))), (lb, .inl (cI, 10, .inl (fm_cp (fm_ln (fm_tk b w2)) ln2 10))), (ou, .inl (cL, 1, .inr (.inl (ov))))] := hD
  refine lv_i2l (v := (nI (fm_fault B n)).toInt64) hx hb d_LW_load_7 (rfl) ?_
  refine va_last hx hb hK hP hD hS 7 1 rfl rfl (vp_in_nI (by omega) (by omega)) d_LW_load_8 (fun H locs hP hD hS => ?_)
  have hP : va_P (dC, dI) classes [(h, .inr (3, [.ref bf, .ref li, .ref ra, .int (rl), .ref o, .ref sp, .int (ld)])), (bf, .inr (0, [.ref ba, .int (nI (n))])), (ba, .inl (cI, 2048, .inl (b))), (sp, .inr (1, [.ref wb, .ref sb, .ref lb, .int (nI (fm_nb (fm_tk b w2) 2)), .int (nI (fm_nb (fm_tk b w2) 3)), .int (sz2), .int (sc2), .int (hv2)])), (wb, .inl (cI, 2048, .inl (fm_tk b w2))), (sb, .inl (cI, 10, .inl (fm_cp (fm_sI (fm_tk b w2)) st2 10))), (lb, .inl (cI, 10, .inl (fm_cp (fm_ln (fm_tk b w2)) ln2 10))), (ou, .inl (cL, 1, .inr (.inl (vp_updL ov (nI (0)).toNatClampNeg ((nI (fm_fault B n)).toInt64)))))] _ := hP
  have hD : va_D A [(h, .inr (3, [.ref bf, .ref li, .ref ra, .int (rl), .ref o, .ref sp, .int (ld)])), (bf, .inr (0, [.ref ba, .int (nI (n))])), (ba, .inl (cI, 2048, .inl (b))), (sp, .inr (1, [.ref wb, .ref sb, .ref lb, .int (nI (fm_nb (fm_tk b w2) 2)), .int (nI (fm_nb (fm_tk b w2) 3)), .int (sz2), .int (sc2), .int (hv2)])), (wb, .inl (cI, 2048, .inl (fm_tk b w2))), (sb, .inl (cI, 10, .inl (fm_cp (fm_sI (fm_tk b w2)) st2 10))), (lb, .inl (cI, 10, .inl (fm_cp (fm_ln (fm_tk b w2)) ln2 10))), (ou, .inl (cL, 1, .inr (.inl (vp_updL ov (nI (0)).toNatClampNeg ((nI (fm_fault B n)).toInt64)))))] := hD
  rw [nI_clamp (show 0 < 2 ^ 31 by omega)] at hP hD
  have hP : va_P (dC, dI) classes [(h, .inr (3, [.ref bf, .ref li, .ref ra, .int (rl), .ref o, .ref sp, .int (ld)])), (bf, .inr (0, [.ref ba, .int (nI (n))])), (ba, .inl (cI, 2048, .inl (b))), (sp, .inr (1, [.ref wb, .ref sb, .ref lb, .int (nI (fm_nb (fm_tk b w2) 2)), .int (nI (fm_nb (fm_tk b w2) 3)), .int (sz2), .int (sc2), .int (hv2)])), (wb, .inl (cI, 2048, .inl (fm_tk b w2))), (sb, .inl (cI, 10, .inl (fm_cp (fm_sI (fm_tk b w2)) st2 10))), (lb, .inl (cI, 10, .inl (fm_cp (fm_ln (fm_tk b w2)) ln2 10))), (ou, .inl (cL, 1, .inr (.inl (vp_updL ov (0) ((nI (fm_fault B n)).toInt64)))))] _ := hP
  have hD : va_D A [(h, .inr (3, [.ref bf, .ref li, .ref ra, .int (rl), .ref o, .ref sp, .int (ld)])), (bf, .inr (0, [.ref ba, .int (nI (n))])), (ba, .inl (cI, 2048, .inl (b))), (sp, .inr (1, [.ref wb, .ref sb, .ref lb, .int (nI (fm_nb (fm_tk b w2) 2)), .int (nI (fm_nb (fm_tk b w2) 3)), .int (sz2), .int (sc2), .int (hv2)])), (wb, .inl (cI, 2048, .inl (fm_tk b w2))), (sb, .inl (cI, 10, .inl (fm_cp (fm_sI (fm_tk b w2)) st2 10))), (lb, .inl (cI, 10, .inl (fm_cp (fm_ln (fm_tk b w2)) ln2 10))), (ou, .inl (cL, 1, .inr (.inl (vp_updL ov (0) ((nI (fm_fault B n)).toInt64)))))] := hD
  refine lv_goto (tgt := 15) hx hb d_LW_load_9 (by decide) ?_
  refine lv_iconst (v := nI (0)) hx hb d_LW_load_15 (by decide) ?_
  exact W.iret hx hb hr (fun t ht hW => ⟨congrArg (fun z => Outcome.returned (some (Value.int z))) (rfl), by rw [ht]; exact hP, hS.F ht⟩) hS.2.2 d_LW_load_16
set_option maxHeartbeats 4000000 in
set_option maxRecDepth 100000 in
theorem c_LW_loadO (l : Launch) (dC : Nat → ClassId) (dI : Nat → Nat → Nat) (h : Nat) (bf : Nat) (li : Nat) (ra : Nat) (rl : Int32) (o : Nat) (sp : Nat) (ld : Int32) (ba : Nat) (n : Nat) (cI : ClassId) (b : Nat → Int32) (wb : Nat) (sb : Nat) (lb : Nat) (bc2 : Int32) (ec2 : Int32) (sz2 : Int32) (sc2 : Int32) (hv2 : Int32) (w2 : Nat → Int32) (st2 : Nat → Int32) (ln2 : Nat → Int32) (B : Nat → Nat) (a : Nat) (pa : Nat) (va : Nat) (na : Nat) (le : Int32) (co : Int32) (ou : Nat) (cL : ClassId) (ov : Nat → Int64) (hn : n ≤ 8192) (ha : a ≤ 134217727) (hB : ∀ i, B i < 256) (hFl : fm_Fl b B n) (hft : fm_fault B n = 0) : fm_MW l (dC, dI) y_LW_load w_LW_load ({ frames := 7, cells := 0, slots := 0, locals := 156 }) [.ref h, .int (nI (a)), .ref ou] [(h, .inr (3, [.ref bf, .ref li, .ref ra, .int (rl), .ref o, .ref sp, .int (ld)])), (bf, .inr (0, [.ref ba, .int (nI (n))])), (ba, .inl (cI, 2048, .inl (b))), (sp, .inr (1, [.ref wb, .ref sb, .ref lb, .int (bc2), .int (ec2), .int (sz2), .int (sc2), .int (hv2)])), (wb, .inl (cI, 2048, .inl (w2))), (sb, .inl (cI, 10, .inl (st2))), (lb, .inl (cI, 10, .inl (ln2))), (li, .inr (2, [.ref pa, .ref va, .ref na, .int (le), .int (co)])), (ou, .inl (cL, 1, .inr (.inl (ov))))] [(h, .inr (3, [.ref bf, .ref li, .ref ra, .int (rl), .ref sp, .ref o, .int (nI (1))])), (bf, .inr (0, [.ref ba, .int (nI (n))])), (ba, .inl (cI, 2048, .inl (b))), (sp, .inr (1, [.ref wb, .ref sb, .ref lb, .int (nI (fm_nb (fm_tk b w2) 2)), .int (nI (fm_nb (fm_tk b w2) 3)), .int (nI (fm_s1 B a)), .int (nI (fm_z (fm_s1 B a))), .int (nI (fm_h (fm_s1 B a)))])), (wb, .inl (cI, 2048, .inl (fm_tk b w2))), (sb, .inl (cI, 10, .inl (fm_cp (fm_sI (fm_tk b w2)) st2 10))), (lb, .inl (cI, 10, .inl (fm_cp (fm_ln (fm_tk b w2)) ln2 10))), (li, .inr (2, [.ref pa, .ref va, .ref na, .int (nI (0)), .int (nI (0))])), (ou, .inl (cL, 1, .inr (.inl (vp_updL ov 0 ((nI 0).toInt64)))))] [(cI, .int), (cL, .long)] (some (.int (nI (0)))) := by
  refine va_MetW (cc := b_LW_load) (maxL := 4) (ret := (some .int)) (by decide) rfl ?_
  intro pg ev s m args below meth cd s₁ BD hml hv
  obtain ⟨rfl, hP, hK, hD0⟩ := hv
  have hx := BD.exec
  have hb := BD.bytes
  have hr := BD.returns
  have hts := atoms_spec (ws := w_LW_load) BD.pre
  have ht : ∀ w ∈ fm_T, w.before _ s = true := fun w h => hts w (List.mem_cons_of_mem _ h)
  have hown : s.vm.findClass R_LW = some m.cls := findClass_of_methodNamed BD.named
  have hlocks := BD.notSynchronized
  have S : CallFix pg m cd b_LW_load 4 s _ w_LW_load R_LW := ⟨hx, hb, hml, hown, hts⟩
  have hD := fm_selfD hD0
  generalize fm_A [(h, .inr (3, [.ref bf, .ref li, .ref ra, .int (rl), .ref o, .ref sp, .int (ld)])), (bf, .inr (0, [.ref ba, .int (nI (n))])), (ba, .inl (cI, 2048, .inl (b))), (sp, .inr (1, [.ref wb, .ref sb, .ref lb, .int (bc2), .int (ec2), .int (sz2), .int (sc2), .int (hv2)])), (wb, .inl (cI, 2048, .inl (w2))), (sb, .inl (cI, 10, .inl (st2))), (lb, .inl (cI, 10, .inl (ln2))), (li, .inr (2, [.ref pa, .ref va, .ref na, .int (le), .int (co)])), (ou, .inl (cL, 1, .inr (.inl (ov))))] = A at hD ⊢
  have hS : va_S A s.heap s.heap [] := va_S.rf
  have hl := lv_entry ([.ref h, .int (nI (a)), .ref ou]) (n := 4) (Nat.le_of_ble_eq_true rfl)
  rw [lg_entry_eq]
  generalize (lg_sl ([.ref h, .int (nI (a)), .ref ou]) ++ List.replicate (4 - (lg_sl ([.ref h, .int (nI (a)), .ref ou])).length) Slot.unset).toArray = ls at hl ⊢
  have hl : lv_has ls 4 [(0, .ref h), (1, .int (nI (a))), (2, .ref ou)] := hl
  refine lv_aload_n hx hb d_LW_load_0 rfl (lv_at hl 2 rfl) ?_
  refine lv_iconst (v := nI (0)) hx hb d_LW_load_1 (by decide) ?_
  refine lv_aload_n hx hb d_LW_load_2 rfl (lv_at hl 0 rfl) ?_
  refine lv_iload_n hx hb d_LW_load_3 rfl (lv_at hl 1 rfl) ?_
  refine fm_wv S (c_FM_loadO l dC dI h bf li ra rl o sp ld ba n cI b wb sb lb bc2 ec2 sz2 sc2 hv2 w2 st2 ln2 B a pa va na le co (hn) (ha) (hB) (hFl) (hft)) rfl rfl k_FM_load q_1_196 ⟨Nat.le_of_ble_eq_true rfl, Nat.le_of_ble_eq_true rfl⟩ hP hD hS (hK.sub [0] rfl) [0, 1, 2, 3, 4, 5, 6, 7] (by decide) rfl 0 rfl rfl rfl hl.1 rfl (Nat.le_of_ble_eq_true rfl) ⟨Nat.zero_le _, Nat.zero_le _⟩ d_LW_load_4 [(h, .inr (3, [.ref bf, .ref li, .ref ra, .int (rl), .ref sp, .ref o, .int (nI (1))])), (bf, .inr (0, [.ref ba, .int (nI (n))])), (ba, .inl (cI, 2048, .inl (b))), (sp, .inr (1, [.ref wb, .ref sb, .ref lb, .int (nI (fm_nb (fm_tk b w2) 2)), .int (nI (fm_nb (fm_tk b w2) 3)), .int (nI (fm_s1 B a)), .int (nI (fm_z (fm_s1 B a))), .int (nI (fm_h (fm_s1 B a)))])), (wb, .inl (cI, 2048, .inl (fm_tk b w2))), (sb, .inl (cI, 10, .inl (fm_cp (fm_sI (fm_tk b w2)) st2 10))), (lb, .inl (cI, 10, .inl (fm_cp (fm_ln (fm_tk b w2)) ln2 10))), (li, .inr (2, [.ref pa, .ref va, .ref na, .int (nI (0)), .int (nI (0))])), (ou, .inl (cL, 1, .inr (.inl (ov))))] [8] rfl rfl (show ∀ i, i < 9 → i ∈ ([0, 1, 2, 3, 4, 5, 6, 7] : List Nat) ∨ i ∈ ([8] : List Nat) by decide) (by decide) rfl (fun H locs hP hD hS => ?_)
  have hP : va_P (dC, dI) classes [(h, .inr (3, [.ref bf, .ref li, .ref ra, .int (rl), .ref sp, .ref o, .int (nI (1))])), (bf, .inr (0, [.ref ba, .int (nI (n))])), (ba, .inl (cI, 2048, .inl (b))), (sp, .inr (1, [.ref wb, .ref sb, .ref lb, .int (nI (fm_nb (fm_tk b w2) 2)), .int (nI (fm_nb (fm_tk b w2) 3)), .int (nI (fm_s1 B a)), .int (nI (fm_z (fm_s1 B a))), .int (nI (fm_h (fm_s1 B a)))])), (wb, .inl (cI, 2048, .inl (fm_tk b w2))), (sb, .inl (cI, 10, .inl (fm_cp (fm_sI (fm_tk b w2)) st2 10))), (lb, .inl (cI, 10, .inl (fm_cp (fm_ln (fm_tk b w2)) ln2 10))), (li, .inr (2, [.ref pa, .ref va, .ref na, .int (nI (0)), .int (nI (0))])), (ou, .inl (cL, 1, .inr (.inl (ov))))] _ := hP
  have hD : va_D A [(h, .inr (3, [.ref bf, .ref li, .ref ra, .int (rl), .ref sp, .ref o, .int (nI (1))])), (bf, .inr (0, [.ref ba, .int (nI (n))])), (ba, .inl (cI, 2048, .inl (b))), (sp, .inr (1, [.ref wb, .ref sb, .ref lb, .int (nI (fm_nb (fm_tk b w2) 2)), .int (nI (fm_nb (fm_tk b w2) 3)), .int (nI (fm_s1 B a)), .int (nI (fm_z (fm_s1 B a))), .int (nI (fm_h (fm_s1 B a)))])), (wb, .inl (cI, 2048, .inl (fm_tk b w2))), (sb, .inl (cI, 10, .inl (fm_cp (fm_sI (fm_tk b w2)) st2 10))), (lb, .inl (cI, 10, .inl (fm_cp (fm_ln (fm_tk b w2)) ln2 10))), (li, .inr (2, [.ref pa, .ref va, .ref na, .int (nI (0)), .int (nI (0))])), (ou, .inl (cL, 1, .inr (.inl (ov))))] := hD
  refine lv_i2l (v := (nI 0).toInt64) hx hb d_LW_load_7 (rfl) ?_
  refine va_last hx hb hK hP hD hS 8 1 rfl rfl (vp_in_nI (by omega) (by omega)) d_LW_load_8 (fun H locs hP hD hS => ?_)
  have hP : va_P (dC, dI) classes [(h, .inr (3, [.ref bf, .ref li, .ref ra, .int (rl), .ref sp, .ref o, .int (nI (1))])), (bf, .inr (0, [.ref ba, .int (nI (n))])), (ba, .inl (cI, 2048, .inl (b))), (sp, .inr (1, [.ref wb, .ref sb, .ref lb, .int (nI (fm_nb (fm_tk b w2) 2)), .int (nI (fm_nb (fm_tk b w2) 3)), .int (nI (fm_s1 B a)), .int (nI (fm_z (fm_s1 B a))), .int (nI (fm_h (fm_s1 B a)))])), (wb, .inl (cI, 2048, .inl (fm_tk b w2))), (sb, .inl (cI, 10, .inl (fm_cp (fm_sI (fm_tk b w2)) st2 10))), (lb, .inl (cI, 10, .inl (fm_cp (fm_ln (fm_tk b w2)) ln2 10))), (li, .inr (2, [.ref pa, .ref va, .ref na, .int (nI (0)), .int (nI (0))])), (ou, .inl (cL, 1, .inr (.inl (vp_updL ov (nI (0)).toNatClampNeg ((nI 0).toInt64)))))] _ := hP
  have hD : va_D A [(h, .inr (3, [.ref bf, .ref li, .ref ra, .int (rl), .ref sp, .ref o, .int (nI (1))])), (bf, .inr (0, [.ref ba, .int (nI (n))])), (ba, .inl (cI, 2048, .inl (b))), (sp, .inr (1, [.ref wb, .ref sb, .ref lb, .int (nI (fm_nb (fm_tk b w2) 2)), .int (nI (fm_nb (fm_tk b w2) 3)), .int (nI (fm_s1 B a)), .int (nI (fm_z (fm_s1 B a))), .int (nI (fm_h (fm_s1 B a)))])), (wb, .inl (cI, 2048, .inl (fm_tk b w2))), (sb, .inl (cI, 10, .inl (fm_cp (fm_sI (fm_tk b w2)) st2 10))), (lb, .inl (cI, 10, .inl (fm_cp (fm_ln (fm_tk b w2)) ln2 10))), (li, .inr (2, [.ref pa, .ref va, .ref na, .int (nI (0)), .int (nI (0))])), (ou, .inl (cL, 1, .inr (.inl (vp_updL ov (nI (0)).toNatClampNeg ((nI 0).toInt64)))))] := hD
  rw [nI_clamp (show 0 < 2 ^ 31 by omega)] at hP hD
  have hP : va_P (dC, dI) classes [(h, .inr (3, [.ref bf, .ref li, .ref ra, .int (rl), .ref sp, .ref o, .int (nI (1))])), (bf, .inr (0, [.ref ba, .int (nI (n))])), (ba, .inl (cI, 2048, .inl (b))), (sp, .inr (1, [.ref wb, .ref sb, .ref lb, .int (nI (fm_nb (fm_tk b w2) 2)), .int (nI (fm_nb (fm_tk b w2) 3)), .int (nI (fm_s1 B a)), .int (nI (fm_z (fm_s1 B a))), .int (nI (fm_h (fm_s1 B a)))])), (wb, .inl (cI, 2048, .inl (fm_tk b w2))), (sb, .inl (cI, 10, .inl (fm_cp (fm_sI (fm_tk b w2)) st2 10))), (lb, .inl (cI, 10, .inl (fm_cp (fm_ln (fm_tk b w2)) ln2 10))), (li, .inr (2, [.ref pa, .ref va, .ref na, .int (nI (0)), .int (nI (0))])), (ou, .inl (cL, 1, .inr (.inl (vp_updL ov (0) ((nI 0).toInt64)))))] _ := hP
  have hD : va_D A [(h, .inr (3, [.ref bf, .ref li, .ref ra, .int (rl), .ref sp, .ref o, .int (nI (1))])), (bf, .inr (0, [.ref ba, .int (nI (n))])), (ba, .inl (cI, 2048, .inl (b))), (sp, .inr (1, [.ref wb, .ref sb, .ref lb, .int (nI (fm_nb (fm_tk b w2) 2)), .int (nI (fm_nb (fm_tk b w2) 3)), .int (nI (fm_s1 B a)), .int (nI (fm_z (fm_s1 B a))), .int (nI (fm_h (fm_s1 B a)))])), (wb, .inl (cI, 2048, .inl (fm_tk b w2))), (sb, .inl (cI, 10, .inl (fm_cp (fm_sI (fm_tk b w2)) st2 10))), (lb, .inl (cI, 10, .inl (fm_cp (fm_ln (fm_tk b w2)) ln2 10))), (li, .inr (2, [.ref pa, .ref va, .ref na, .int (nI (0)), .int (nI (0))])), (ou, .inl (cL, 1, .inr (.inl (vp_updL ov (0) ((nI 0).toInt64)))))] := hD
  refine lv_goto (tgt := 15) hx hb d_LW_load_9 (by decide) ?_
  refine lv_iconst (v := nI (0)) hx hb d_LW_load_15 (by decide) ?_
  exact W.iret hx hb hr (fun t ht hW => ⟨congrArg (fun z => Outcome.returned (some (Value.int z))) (rfl), by rw [ht]; exact hP, hS.F ht⟩) hS.2.2 d_LW_load_16
theorem d_LW_set_0 : decode b_LW_set 0 = .ok (.aload_n 1, 1) := by decide +kernel
theorem d_LW_set_1 : decode b_LW_set 1 = .ok (.iconst 0, 1) := by decide +kernel
theorem d_LW_set_2 : decode b_LW_set 2 = .ok (.aload_n 0, 1) := by decide +kernel
theorem d_LW_set_3 : decode b_LW_set 3 = .ok (.invokevirtual 35, 3) := by decide +kernel
theorem d_LW_set_6 : decode b_LW_set 6 = .ok (.i2l, 1) := by decide +kernel
theorem d_LW_set_7 : decode b_LW_set 7 = .ok (.lastore, 1) := by decide +kernel
theorem d_LW_set_8 : decode b_LW_set 8 = .ok (.goto 6, 3) := by decide +kernel
theorem d_LW_set_11 : decode b_LW_set 11 = .ok (.astore_n 2, 1) := by decide +kernel
theorem d_LW_set_12 : decode b_LW_set 12 = .ok (.iconst 1, 1) := by decide +kernel
theorem d_LW_set_13 : decode b_LW_set 13 = .ok (.ireturn, 1) := by decide +kernel
theorem d_LW_set_14 : decode b_LW_set 14 = .ok (.iconst 0, 1) := by decide +kernel
theorem d_LW_set_15 : decode b_LW_set 15 = .ok (.ireturn, 1) := by decide +kernel
set_option maxHeartbeats 4000000 in
set_option maxRecDepth 100000 in
theorem c_LW_setN (l : Launch) (dC : Nat → ClassId) (dI : Nat → Nat → Nat) (h : Nat) (bf : Nat) (li : Nat) (ra : Nat) (o : Nat) (sp : Nat) (pa : Nat) (va : Nat) (na : Nat) (le : Int32) (co : Int32) (rn : Nat) (rw : Nat → Int32) (r : Nat → Nat) (wa : Nat) (sa : Nat) (la : Nat) (s0 : Nat) (cI : ClassId) (B : Nat → Nat) (w : Nat → Int32) (st : Nat → Int32) (ln : Nat → Int32) (ou : Nat) (cL : ClassId) (ov : Nat → Int64) (hF : fm_FO B w st ln) (hV : fm_V B) (hs : s0 < 134217728) (hrn : rn ≤ 64) (hrw : ∀ i, i < rn → rw i = nI (r i) ∧ r i ≤ 255) (hno : fm_all rn (fun i => fm_th B (r i)) = false) : fm_MW l (dC, dI) y_LW_set w_LW_set ({ frames := 5, cells := 0, slots := 0, locals := 106 }) [.ref h, .ref ou] [(h, .inr (3, [.ref bf, .ref li, .ref ra, .int (nI (rn)), .ref o, .ref sp, .int (nI (1))])), (ra, .inl (cI, 64, .inl (rw))), (li, .inr (2, [.ref pa, .ref va, .ref na, .int (le), .int (co)])), (o, .inr (1, [.ref wa, .ref sa, .ref la, .int (nI (fm_HF B 2)), .int (nI (fm_HF B 3)), .int (nI (s0)), .int (nI (fm_z s0)), .int (nI (fm_h s0))])), (wa, .inl (cI, 2048, .inl (w))), (sa, .inl (cI, 10, .inl (st))), (la, .inl (cI, 10, .inl (ln))), (ou, .inl (cL, 1, .inr (.inl (ov))))] [(h, .inr (3, [.ref bf, .ref li, .ref ra, .int (nI (rn)), .ref o, .ref sp, .int (nI (1))])), (ra, .inl (cI, 64, .inl (rw))), (li, .inr (2, [.ref pa, .ref va, .ref na, .int (nI (0)), .int (nI (0))])), (o, .inr (1, [.ref wa, .ref sa, .ref la, .int (nI (fm_HF B 2)), .int (nI (fm_HF B 3)), .int (nI (s0)), .int (nI (fm_z s0)), .int (nI (fm_h s0))])), (wa, .inl (cI, 2048, .inl (w))), (sa, .inl (cI, 10, .inl (st))), (la, .inl (cI, 10, .inl (ln))), (ou, .inl (cL, 1, .inr (.inl (vp_updL ov 0 (((-1) : Int32).toInt64)))))] [(cI, .int), (cL, .long)] (some (.int (nI (0)))) := by
  refine va_MetW (cc := b_LW_set) (maxL := 3) (ret := (some .int)) (by decide) rfl ?_
  intro pg ev s m args below meth cd s₁ BD hml hv
  obtain ⟨rfl, hP, hK, hD0⟩ := hv
  have hx := BD.exec
  have hb := BD.bytes
  have hr := BD.returns
  have hts := atoms_spec (ws := w_LW_set) BD.pre
  have ht : ∀ w ∈ fm_T, w.before _ s = true := fun w h => hts w (List.mem_cons_of_mem _ h)
  have hown : s.vm.findClass R_LW = some m.cls := findClass_of_methodNamed BD.named
  have hlocks := BD.notSynchronized
  have S : CallFix pg m cd b_LW_set 3 s _ w_LW_set R_LW := ⟨hx, hb, hml, hown, hts⟩
  have hD := fm_selfD hD0
  generalize fm_A [(h, .inr (3, [.ref bf, .ref li, .ref ra, .int (nI (rn)), .ref o, .ref sp, .int (nI (1))])), (ra, .inl (cI, 64, .inl (rw))), (li, .inr (2, [.ref pa, .ref va, .ref na, .int (le), .int (co)])), (o, .inr (1, [.ref wa, .ref sa, .ref la, .int (nI (fm_HF B 2)), .int (nI (fm_HF B 3)), .int (nI (s0)), .int (nI (fm_z s0)), .int (nI (fm_h s0))])), (wa, .inl (cI, 2048, .inl (w))), (sa, .inl (cI, 10, .inl (st))), (la, .inl (cI, 10, .inl (ln))), (ou, .inl (cL, 1, .inr (.inl (ov))))] = A at hD ⊢
  have hS : va_S A s.heap s.heap [] := va_S.rf
  have hl := lv_entry ([.ref h, .ref ou]) (n := 3) (Nat.le_of_ble_eq_true rfl)
  rw [lg_entry_eq]
  generalize (lg_sl ([.ref h, .ref ou]) ++ List.replicate (3 - (lg_sl ([.ref h, .ref ou])).length) Slot.unset).toArray = ls at hl ⊢
  have hl : lv_has ls 3 [(0, .ref h), (1, .ref ou)] := hl
  refine lv_aload_n hx hb d_LW_set_0 rfl (lv_at hl 1 rfl) ?_
  refine lv_iconst (v := nI (0)) hx hb d_LW_set_1 (by decide) ?_
  refine lv_aload_n hx hb d_LW_set_2 rfl (lv_at hl 0 rfl) ?_
  refine fm_wv S (c_FM_setN l dC dI h bf li ra o sp pa va na le co rn rw r wa sa la s0 cI B w st ln (hF) (hV) (hs) (hrn) (hrw) (hno)) rfl rfl k_FM_set q_3_36 ⟨Nat.le_of_ble_eq_true rfl, Nat.le_of_ble_eq_true rfl⟩ hP hD hS (hK.sub [0] rfl) [0, 1, 2, 3, 4, 5, 6] (by decide) rfl 0 rfl rfl rfl hl.1 rfl (Nat.le_of_ble_eq_true rfl) ⟨Nat.zero_le _, Nat.zero_le _⟩ d_LW_set_3 [(h, .inr (3, [.ref bf, .ref li, .ref ra, .int (nI (rn)), .ref o, .ref sp, .int (nI (1))])), (ra, .inl (cI, 64, .inl (rw))), (li, .inr (2, [.ref pa, .ref va, .ref na, .int (nI (0)), .int (nI (0))])), (o, .inr (1, [.ref wa, .ref sa, .ref la, .int (nI (fm_HF B 2)), .int (nI (fm_HF B 3)), .int (nI (s0)), .int (nI (fm_z s0)), .int (nI (fm_h s0))])), (wa, .inl (cI, 2048, .inl (w))), (sa, .inl (cI, 10, .inl (st))), (la, .inl (cI, 10, .inl (ln))), (ou, .inl (cL, 1, .inr (.inl (ov))))] [7] rfl rfl (show ∀ i, i < 8 → i ∈ ([0, 1, 2, 3, 4, 5, 6] : List Nat) ∨ i ∈ ([7] : List Nat) by decide) (by decide) rfl (fun H locs hP hD hS => ?_)
  have hP : va_P (dC, dI) classes [(h, .inr (3, [.ref bf, .ref li, .ref ra, .int (nI (rn)), .ref o, .ref sp, .int (nI (1))])), (ra, .inl (cI, 64, .inl (rw))), (li, .inr (2, [.ref pa, .ref va, .ref na, .int (nI (0)), .int (nI (0))])), (o, .inr (1, [.ref wa, .ref sa, .ref la, .int (nI (fm_HF B 2)), .int (nI (fm_HF B 3)), .int (nI (s0)), .int (nI (fm_z s0)), .int (nI (fm_h s0))])), (wa, .inl (cI, 2048, .inl (w))), (sa, .inl (cI, 10, .inl (st))), (la, .inl (cI, 10, .inl (ln))), (ou, .inl (cL, 1, .inr (.inl (ov))))] _ := hP
  have hD : va_D A [(h, .inr (3, [.ref bf, .ref li, .ref ra, .int (nI (rn)), .ref o, .ref sp, .int (nI (1))])), (ra, .inl (cI, 64, .inl (rw))), (li, .inr (2, [.ref pa, .ref va, .ref na, .int (nI (0)), .int (nI (0))])), (o, .inr (1, [.ref wa, .ref sa, .ref la, .int (nI (fm_HF B 2)), .int (nI (fm_HF B 3)), .int (nI (s0)), .int (nI (fm_z s0)), .int (nI (fm_h s0))])), (wa, .inl (cI, 2048, .inl (w))), (sa, .inl (cI, 10, .inl (st))), (la, .inl (cI, 10, .inl (ln))), (ou, .inl (cL, 1, .inr (.inl (ov))))] := hD
  refine lv_i2l (v := ((-1) : Int32).toInt64) hx hb d_LW_set_6 (rfl) ?_
  refine va_last hx hb hK hP hD hS 7 1 rfl rfl (vp_in_nI (by omega) (by omega)) d_LW_set_7 (fun H locs hP hD hS => ?_)
  have hP : va_P (dC, dI) classes [(h, .inr (3, [.ref bf, .ref li, .ref ra, .int (nI (rn)), .ref o, .ref sp, .int (nI (1))])), (ra, .inl (cI, 64, .inl (rw))), (li, .inr (2, [.ref pa, .ref va, .ref na, .int (nI (0)), .int (nI (0))])), (o, .inr (1, [.ref wa, .ref sa, .ref la, .int (nI (fm_HF B 2)), .int (nI (fm_HF B 3)), .int (nI (s0)), .int (nI (fm_z s0)), .int (nI (fm_h s0))])), (wa, .inl (cI, 2048, .inl (w))), (sa, .inl (cI, 10, .inl (st))), (la, .inl (cI, 10, .inl (ln))), (ou, .inl (cL, 1, .inr (.inl (vp_updL ov (nI (0)).toNatClampNeg (((-1) : Int32).toInt64)))))] _ := hP
  have hD : va_D A [(h, .inr (3, [.ref bf, .ref li, .ref ra, .int (nI (rn)), .ref o, .ref sp, .int (nI (1))])), (ra, .inl (cI, 64, .inl (rw))), (li, .inr (2, [.ref pa, .ref va, .ref na, .int (nI (0)), .int (nI (0))])), (o, .inr (1, [.ref wa, .ref sa, .ref la, .int (nI (fm_HF B 2)), .int (nI (fm_HF B 3)), .int (nI (s0)), .int (nI (fm_z s0)), .int (nI (fm_h s0))])), (wa, .inl (cI, 2048, .inl (w))), (sa, .inl (cI, 10, .inl (st))), (la, .inl (cI, 10, .inl (ln))), (ou, .inl (cL, 1, .inr (.inl (vp_updL ov (nI (0)).toNatClampNeg (((-1) : Int32).toInt64)))))] := hD
  rw [nI_clamp (show 0 < 2 ^ 31 by omega)] at hP hD
  have hP : va_P (dC, dI) classes [(h, .inr (3, [.ref bf, .ref li, .ref ra, .int (nI (rn)), .ref o, .ref sp, .int (nI (1))])), (ra, .inl (cI, 64, .inl (rw))), (li, .inr (2, [.ref pa, .ref va, .ref na, .int (nI (0)), .int (nI (0))])), (o, .inr (1, [.ref wa, .ref sa, .ref la, .int (nI (fm_HF B 2)), .int (nI (fm_HF B 3)), .int (nI (s0)), .int (nI (fm_z s0)), .int (nI (fm_h s0))])), (wa, .inl (cI, 2048, .inl (w))), (sa, .inl (cI, 10, .inl (st))), (la, .inl (cI, 10, .inl (ln))), (ou, .inl (cL, 1, .inr (.inl (vp_updL ov (0) (((-1) : Int32).toInt64)))))] _ := hP
  have hD : va_D A [(h, .inr (3, [.ref bf, .ref li, .ref ra, .int (nI (rn)), .ref o, .ref sp, .int (nI (1))])), (ra, .inl (cI, 64, .inl (rw))), (li, .inr (2, [.ref pa, .ref va, .ref na, .int (nI (0)), .int (nI (0))])), (o, .inr (1, [.ref wa, .ref sa, .ref la, .int (nI (fm_HF B 2)), .int (nI (fm_HF B 3)), .int (nI (s0)), .int (nI (fm_z s0)), .int (nI (fm_h s0))])), (wa, .inl (cI, 2048, .inl (w))), (sa, .inl (cI, 10, .inl (st))), (la, .inl (cI, 10, .inl (ln))), (ou, .inl (cL, 1, .inr (.inl (vp_updL ov (0) (((-1) : Int32).toInt64)))))] := hD
  refine lv_goto (tgt := 14) hx hb d_LW_set_8 (by decide) ?_
  refine lv_iconst (v := nI (0)) hx hb d_LW_set_14 (by decide) ?_
  exact W.iret hx hb hr (fun t ht hW => ⟨congrArg (fun z => Outcome.returned (some (Value.int z))) (rfl), by rw [ht]; exact hP, hS.F ht⟩) hS.2.2 d_LW_set_15
set_option maxHeartbeats 4000000 in
set_option maxRecDepth 100000 in
theorem c_LW_setY (l : Launch) (dC : Nat → ClassId) (dI : Nat → Nat → Nat) (h : Nat) (bf : Nat) (li : Nat) (ra : Nat) (o : Nat) (sp : Nat) (pa : Nat) (va : Nat) (na : Nat) (le : Int32) (co : Int32) (rn : Nat) (rw : Nat → Int32) (r : Nat → Nat) (wa : Nat) (sa : Nat) (la : Nat) (s0 : Nat) (cI : ClassId) (B : Nat → Nat) (w : Nat → Int32) (st : Nat → Int32) (ln : Nat → Int32) (cZ : ClassId) (pd : Nat → Int32) (vl : Nat → Int32) (kn : Nat → Int32) (ou : Nat) (cL : ClassId) (ov : Nat → Int64) (hF : fm_FO B w st ln) (hV : fm_V B) (hs : s0 < 134217728) (hrn : rn ≤ 64) (hrw : ∀ i, i < rn → rw i = nI (r i) ∧ r i ≤ 255) (hyes : fm_all rn (fun i => fm_th B (r i)) = true) : fm_MX (S := (Nat → Int32) × (Nat → Int32) × (Nat → Int32)) l (dC, dI) y_LW_set w_LW_set ({ frames := 7, cells := 0, slots := 0, locals := 162 }) [.ref h, .ref ou] [(h, .inr (3, [.ref bf, .ref li, .ref ra, .int (nI (rn)), .ref o, .ref sp, .int (nI (1))])), (ra, .inl (cI, 64, .inl (rw))), (li, .inr (2, [.ref pa, .ref va, .ref na, .int (le), .int (co)])), (pa, .inl (cI, 1066, .inl (pd))), (va, .inl (cI, 1066, .inl (vl))), (na, .inl (cZ, 1066, .inl (kn))), (o, .inr (1, [.ref wa, .ref sa, .ref la, .int (nI (fm_HF B 2)), .int (nI (fm_HF B 3)), .int (nI (s0)), .int (nI (fm_z s0)), .int (nI (fm_h s0))])), (wa, .inl (cI, 2048, .inl (w))), (sa, .inl (cI, 10, .inl (st))), (la, .inl (cI, 10, .inl (ln))), (ou, .inl (cL, 1, .inr (.inl (ov))))] [(cI, .int), (cZ, .boolean), (cL, .long)] (fun u => ∀ L, (fm_set B s0 (fm_T0 B r rn)) = some L → fm_CL u.2.1 u.2.2 L) (fun u => (some (.int (nI (0))))) (fun u => [(h, .inr (3, [.ref bf, .ref li, .ref ra, .int (nI (0)), .ref o, .ref sp, .int (nI (1))])), (ra, .inl (cI, 64, .inl (rw))), (li, .inr (2, [.ref pa, .ref va, .ref na, .int (nI (0)), .int (nI (fm_sN (fm_set B s0 (fm_T0 B r rn))))])), (pa, .inl (cI, 1066, .inl (u.1))), (va, .inl (cI, 1066, .inl (u.2.1))), (na, .inl (cZ, 1066, .inl (u.2.2))), (o, .inr (1, [.ref wa, .ref sa, .ref la, .int (nI (fm_HF B 2)), .int (nI (fm_HF B 3)), .int (nI (s0)), .int (nI (fm_z s0)), .int (nI (fm_h s0))])), (wa, .inl (cI, 2048, .inl (w))), (sa, .inl (cI, 10, .inl (st))), (la, .inl (cI, 10, .inl (ln))), (ou, .inl (cL, 1, .inr (.inl (vp_updL ov 0 ((fm_sR (fm_set B s0 (fm_T0 B r rn))).toInt64)))))]) := by
  refine va_MetW (cc := b_LW_set) (maxL := 3) (ret := (some .int)) (by decide) rfl ?_
  intro pg ev s m args below meth cd s₁ BD hml hv
  obtain ⟨rfl, hP, hK, hD0⟩ := hv
  have hx := BD.exec
  have hb := BD.bytes
  have hr := BD.returns
  have hts := atoms_spec (ws := w_LW_set) BD.pre
  have ht : ∀ w ∈ fm_T, w.before _ s = true := fun w h => hts w (List.mem_cons_of_mem _ h)
  have hown : s.vm.findClass R_LW = some m.cls := findClass_of_methodNamed BD.named
  have hlocks := BD.notSynchronized
  have S : CallFix pg m cd b_LW_set 3 s _ w_LW_set R_LW := ⟨hx, hb, hml, hown, hts⟩
  have hD := fm_selfD hD0
  generalize fm_A [(h, .inr (3, [.ref bf, .ref li, .ref ra, .int (nI (rn)), .ref o, .ref sp, .int (nI (1))])), (ra, .inl (cI, 64, .inl (rw))), (li, .inr (2, [.ref pa, .ref va, .ref na, .int (le), .int (co)])), (pa, .inl (cI, 1066, .inl (pd))), (va, .inl (cI, 1066, .inl (vl))), (na, .inl (cZ, 1066, .inl (kn))), (o, .inr (1, [.ref wa, .ref sa, .ref la, .int (nI (fm_HF B 2)), .int (nI (fm_HF B 3)), .int (nI (s0)), .int (nI (fm_z s0)), .int (nI (fm_h s0))])), (wa, .inl (cI, 2048, .inl (w))), (sa, .inl (cI, 10, .inl (st))), (la, .inl (cI, 10, .inl (ln))), (ou, .inl (cL, 1, .inr (.inl (ov))))] = A at hD ⊢
  have hS : va_S A s.heap s.heap [] := va_S.rf
  have hl := lv_entry ([.ref h, .ref ou]) (n := 3) (Nat.le_of_ble_eq_true rfl)
  rw [lg_entry_eq]
  generalize (lg_sl ([.ref h, .ref ou]) ++ List.replicate (3 - (lg_sl ([.ref h, .ref ou])).length) Slot.unset).toArray = ls at hl ⊢
  have hl : lv_has ls 3 [(0, .ref h), (1, .ref ou)] := hl
  refine lv_aload_n hx hb d_LW_set_0 rfl (lv_at hl 1 rfl) ?_
  refine lv_iconst (v := nI (0)) hx hb d_LW_set_1 (by decide) ?_
  refine lv_aload_n hx hb d_LW_set_2 rfl (lv_at hl 0 rfl) ?_
  refine fm_xv S (c_FM_setY l dC dI h bf li ra o sp pa va na le co rn rw r wa sa la s0 cI B w st ln cZ pd vl kn (hF) (hV) (hs) (hrn) (hrw) (hyes)) rfl rfl k_FM_set q_3_36 ⟨Nat.le_of_ble_eq_true rfl, Nat.le_of_ble_eq_true rfl⟩ hP hD hS (hK.sub [0, 1] rfl) [0, 1, 2, 3, 4, 5, 6, 7, 8, 9] (by decide) rfl 0 rfl rfl rfl hl.1 rfl (Nat.le_of_ble_eq_true rfl) ⟨Nat.zero_le _, Nat.zero_le _⟩ d_LW_set_3 (fun u => [(h, .inr (3, [.ref bf, .ref li, .ref ra, .int (nI (0)), .ref o, .ref sp, .int (nI (1))])), (ra, .inl (cI, 64, .inl (rw))), (li, .inr (2, [.ref pa, .ref va, .ref na, .int (nI (0)), .int (nI (fm_sN (fm_set B s0 (fm_T0 B r rn))))])), (pa, .inl (cI, 1066, .inl (u.1))), (va, .inl (cI, 1066, .inl (u.2.1))), (na, .inl (cZ, 1066, .inl (u.2.2))), (o, .inr (1, [.ref wa, .ref sa, .ref la, .int (nI (fm_HF B 2)), .int (nI (fm_HF B 3)), .int (nI (s0)), .int (nI (fm_z s0)), .int (nI (fm_h s0))])), (wa, .inl (cI, 2048, .inl (w))), (sa, .inl (cI, 10, .inl (st))), (la, .inl (cI, 10, .inl (ln))), (ou, .inl (cL, 1, .inr (.inl (ov))))]) [10] (fun _ => rfl) (fun _ => rfl) (fun _ => show ∀ i, i < 11 → i ∈ ([0, 1, 2, 3, 4, 5, 6, 7, 8, 9] : List Nat) ∨ i ∈ ([10] : List Nat) by decide) (by decide) (fun _ => rfl) (fun u hu H locs hP hD hS => ?_)
  obtain ⟨u1, u2, u3⟩ := u
  have hu_3 : ∀ L, (fm_set B s0 (fm_T0 B r rn)) = some L → fm_CL u2 u3 L := hu
  have hP : va_P (dC, dI) classes [(h, .inr (3, [.ref bf, .ref li, .ref ra, .int (nI (0)), .ref o, .ref sp, .int (nI (1))])), (ra, .inl (cI, 64, .inl (rw))), (li, .inr (2, [.ref pa, .ref va, .ref na, .int (nI (0)), .int (nI (fm_sN (fm_set B s0 (fm_T0 B r rn))))])), (pa, .inl (cI, 1066, .inl (u1))), (va, .inl (cI, 1066, .inl (u2))), (na, .inl (cZ, 1066, .inl (u3))), (o, .inr (1, [.ref wa, .ref sa, .ref la, .int (nI (fm_HF B 2)), .int (nI (fm_HF B 3)), .int (nI (s0)), .int (nI (fm_z s0)), .int (nI (fm_h s0))])), (wa, .inl (cI, 2048, .inl (w))), (sa, .inl (cI, 10, .inl (st))), (la, .inl (cI, 10, .inl (ln))), (ou, .inl (cL, 1, .inr (.inl (ov))))] _ := hP
  have hD : va_D A [(h, .inr (3, [.ref bf, .ref li, .ref ra, .int (nI (0)), .ref o, .ref sp, .int (nI (1))])), (ra, .inl (cI, 64, .inl (rw))), (li, .inr (2, [.ref pa, .ref va, .ref na, .int (nI (0)), .int (nI (fm_sN (fm_set B s0 (fm_T0 B r rn))))])), (pa, .inl (cI, 1066, .inl (u1))), (va, .inl (cI, 1066, .inl (u2))), (na, .inl (cZ, 1066, .inl (u3))), (o, .inr (1, [.ref wa, .ref sa, .ref la, .int (nI (fm_HF B 2)), .int (nI (fm_HF B 3)), .int (nI (s0)), .int (nI (fm_z s0)), .int (nI (fm_h s0))])), (wa, .inl (cI, 2048, .inl (w))), (sa, .inl (cI, 10, .inl (st))), (la, .inl (cI, 10, .inl (ln))), (ou, .inl (cL, 1, .inr (.inl (ov))))] := hD
  refine lv_i2l (v := (fm_sR (fm_set B s0 (fm_T0 B r rn))).toInt64) hx hb d_LW_set_6 (rfl) ?_
  refine va_last hx hb hK hP hD hS 10 2 rfl rfl (vp_in_nI (by omega) (by omega)) d_LW_set_7 (fun H locs hP hD hS => ?_)
  have hP : va_P (dC, dI) classes [(h, .inr (3, [.ref bf, .ref li, .ref ra, .int (nI (0)), .ref o, .ref sp, .int (nI (1))])), (ra, .inl (cI, 64, .inl (rw))), (li, .inr (2, [.ref pa, .ref va, .ref na, .int (nI (0)), .int (nI (fm_sN (fm_set B s0 (fm_T0 B r rn))))])), (pa, .inl (cI, 1066, .inl (u1))), (va, .inl (cI, 1066, .inl (u2))), (na, .inl (cZ, 1066, .inl (u3))), (o, .inr (1, [.ref wa, .ref sa, .ref la, .int (nI (fm_HF B 2)), .int (nI (fm_HF B 3)), .int (nI (s0)), .int (nI (fm_z s0)), .int (nI (fm_h s0))])), (wa, .inl (cI, 2048, .inl (w))), (sa, .inl (cI, 10, .inl (st))), (la, .inl (cI, 10, .inl (ln))), (ou, .inl (cL, 1, .inr (.inl (vp_updL ov (nI (0)).toNatClampNeg ((fm_sR (fm_set B s0 (fm_T0 B r rn))).toInt64)))))] _ := hP
  have hD : va_D A [(h, .inr (3, [.ref bf, .ref li, .ref ra, .int (nI (0)), .ref o, .ref sp, .int (nI (1))])), (ra, .inl (cI, 64, .inl (rw))), (li, .inr (2, [.ref pa, .ref va, .ref na, .int (nI (0)), .int (nI (fm_sN (fm_set B s0 (fm_T0 B r rn))))])), (pa, .inl (cI, 1066, .inl (u1))), (va, .inl (cI, 1066, .inl (u2))), (na, .inl (cZ, 1066, .inl (u3))), (o, .inr (1, [.ref wa, .ref sa, .ref la, .int (nI (fm_HF B 2)), .int (nI (fm_HF B 3)), .int (nI (s0)), .int (nI (fm_z s0)), .int (nI (fm_h s0))])), (wa, .inl (cI, 2048, .inl (w))), (sa, .inl (cI, 10, .inl (st))), (la, .inl (cI, 10, .inl (ln))), (ou, .inl (cL, 1, .inr (.inl (vp_updL ov (nI (0)).toNatClampNeg ((fm_sR (fm_set B s0 (fm_T0 B r rn))).toInt64)))))] := hD
  rw [nI_clamp (show 0 < 2 ^ 31 by omega)] at hP hD
  have hP : va_P (dC, dI) classes [(h, .inr (3, [.ref bf, .ref li, .ref ra, .int (nI (0)), .ref o, .ref sp, .int (nI (1))])), (ra, .inl (cI, 64, .inl (rw))), (li, .inr (2, [.ref pa, .ref va, .ref na, .int (nI (0)), .int (nI (fm_sN (fm_set B s0 (fm_T0 B r rn))))])), (pa, .inl (cI, 1066, .inl (u1))), (va, .inl (cI, 1066, .inl (u2))), (na, .inl (cZ, 1066, .inl (u3))), (o, .inr (1, [.ref wa, .ref sa, .ref la, .int (nI (fm_HF B 2)), .int (nI (fm_HF B 3)), .int (nI (s0)), .int (nI (fm_z s0)), .int (nI (fm_h s0))])), (wa, .inl (cI, 2048, .inl (w))), (sa, .inl (cI, 10, .inl (st))), (la, .inl (cI, 10, .inl (ln))), (ou, .inl (cL, 1, .inr (.inl (vp_updL ov (0) ((fm_sR (fm_set B s0 (fm_T0 B r rn))).toInt64)))))] _ := hP
  have hD : va_D A [(h, .inr (3, [.ref bf, .ref li, .ref ra, .int (nI (0)), .ref o, .ref sp, .int (nI (1))])), (ra, .inl (cI, 64, .inl (rw))), (li, .inr (2, [.ref pa, .ref va, .ref na, .int (nI (0)), .int (nI (fm_sN (fm_set B s0 (fm_T0 B r rn))))])), (pa, .inl (cI, 1066, .inl (u1))), (va, .inl (cI, 1066, .inl (u2))), (na, .inl (cZ, 1066, .inl (u3))), (o, .inr (1, [.ref wa, .ref sa, .ref la, .int (nI (fm_HF B 2)), .int (nI (fm_HF B 3)), .int (nI (s0)), .int (nI (fm_z s0)), .int (nI (fm_h s0))])), (wa, .inl (cI, 2048, .inl (w))), (sa, .inl (cI, 10, .inl (st))), (la, .inl (cI, 10, .inl (ln))), (ou, .inl (cL, 1, .inr (.inl (vp_updL ov (0) ((fm_sR (fm_set B s0 (fm_T0 B r rn))).toInt64)))))] := hD
  refine lv_goto (tgt := 14) hx hb d_LW_set_8 (by decide) ?_
  refine lv_iconst (v := nI (0)) hx hb d_LW_set_14 (by decide) ?_
  exact W.iret hx hb hr (fun t ht hW => ⟨(u1, u2, u3), (hu_3), congrArg (fun z => Outcome.returned (some (Value.int z))) (rfl), by rw [ht]; exact hP, hS.F ht⟩) hS.2.2 d_LW_set_15
set_option maxHeartbeats 4000000 in
set_option maxRecDepth 100000 in
theorem x_LW_aboutU (l : Launch) (hl0 : l.stackTraces = false) (dC : Nat → ClassId) (dI : Nat → Nat → Nat) (h : Nat) (bf : Nat) (li : Nat) (ra : Nat) (rl : Int32) (o : Nat) (sp : Nat) (x : Int32) (ou : Nat)  : fm_MC l (dC, dI) y_LW_about w_LW_about ({ frames := 8, cells := 1, slots := 6, locals := 123 }) [.ref h, .int (x), .ref ou] [(h, .inr (3, [.ref bf, .ref li, .ref ra, .int (rl), .ref o, .ref sp, .int (nI (0))]))] [] (nI 1) := by
  refine va_MetW (cc := b_LW_about) (maxL := 4) (ret := (some .int)) (by decide) rfl ?_
  intro pg ev s m args below meth cd s₁ BD hml hv
  obtain ⟨rfl, hP, hK, hTh, hNc⟩ := hv
  have hx := BD.exec
  have hb := BD.bytes
  have hr := BD.returns
  have hts := atoms_spec (ws := w_LW_about) BD.pre
  have ht : ∀ w ∈ fm_T, w.before _ s = true := fun w h => hts w (List.mem_cons_of_mem _ h)
  have hown : s.vm.findClass R_LW = some m.cls := findClass_of_methodNamed BD.named
  have hlocks := BD.notSynchronized
  have S : CallFix pg m cd b_LW_about 4 s _ w_LW_about R_LW := ⟨hx, hb, hml, hown, hts⟩
  have htab := vx_table (x := y_LW_about) BD (hts (.codeWith y_LW_about b_LW_about 4 (some .int) [(0, 9, 12, 18), (0, 9, 15, 20)]) List.mem_cons_self)
  have hl := lv_entry ([.ref h, .int (x), .ref ou]) (n := 4) (Nat.le_of_ble_eq_true rfl)
  rw [lg_entry_eq]
  generalize (lg_sl ([.ref h, .int (x), .ref ou]) ++ List.replicate (4 - (lg_sl ([.ref h, .int (x), .ref ou])).length) Slot.unset).toArray = ls at hl ⊢
  have hl : lv_has ls 4 [(0, .ref h), (1, .int (x)), (2, .ref ou)] := hl
  refine lv_aload_n hx hb d_LW_about_0 rfl (lv_at hl 2 rfl) ?_
  refine lv_iconst (v := nI (0)) hx hb d_LW_about_1 (by decide) ?_
  refine lv_aload_n hx hb d_LW_about_2 rfl (lv_at hl 0 rfl) ?_
  refine lv_iload_n hx hb d_LW_about_3 rfl (lv_at hl 1 rfl) ?_
  refine fm_tv S (x_FM_aboutU l hl0 dC dI h bf li ra rl o sp x ) rfl rfl k_FM_about q_2_148 ⟨Nat.le_of_ble_eq_true rfl, Nat.le_of_ble_eq_true rfl⟩ (hP.sub [0] rfl) (hK.sub [] rfl) hTh 0 rfl rfl rfl hl.1 rfl (Nat.le_of_ble_eq_true rfl) ⟨Nat.le_of_ble_eq_true rfl, Nat.le_of_ble_eq_true rfl⟩ d_LW_about_4 (fun q9 ce H1 h1 h2 h3 h4 h5 => ?_)
  refine vx_catch (name := fm_IS) (E := fm_IS) hown [] ⟨0, 9, 12, 18⟩ [⟨0, 9, 15, 20⟩] htab (fun z hz => nomatch hz) (by decide) (by decide) (ht _ q_2_146) (va_Nw.use rfl (hTh.1 (.castable fm_IS fm_IS) (List.mem_of_getElem? (i := 1) rfl))) h3 h4 h5 ?_
  refine lv_astore_n (lv' := [(3, .ref q9), (0, .ref h), (1, .int (x)), (2, .ref ou)]) hx hb d_LW_about_12 rfl hl (by decide) rfl (fun ls hl => ?_)
  refine lv_iconst (v := nI (1)) hx hb d_LW_about_13 (by decide) ?_
  exact W.iret hx hb hr (fun t ht hW => ⟨rfl, by rw [ht]; exact h1, fun q hq _ => by rw [ht]; exact h2 q hq⟩) (fun q hq => by cases hq) d_LW_about_14
set_option maxHeartbeats 4000000 in
set_option maxRecDepth 100000 in
theorem x_LW_ofU (l : Launch) (hl0 : l.stackTraces = false) (dC : Nat → ClassId) (dI : Nat → Nat → Nat) (h : Nat) (bf : Nat) (li : Nat) (ra : Nat) (rl : Int32) (o : Nat) (sp : Nat) (x : Int32) (y : Int32) (ou : Nat)  : fm_MC l (dC, dI) y_LW_of w_LW_of ({ frames := 8, cells := 1, slots := 6, locals := 124 }) [.ref h, .int (x), .int (y), .ref ou] [(h, .inr (3, [.ref bf, .ref li, .ref ra, .int (rl), .ref o, .ref sp, .int (nI (0))]))] [] (nI 1) := by
  refine va_MetW (cc := b_LW_of) (maxL := 5) (ret := (some .int)) (by decide) rfl ?_
  intro pg ev s m args below meth cd s₁ BD hml hv
  obtain ⟨rfl, hP, hK, hTh, hNc⟩ := hv
  have hx := BD.exec
  have hb := BD.bytes
  have hr := BD.returns
  have hts := atoms_spec (ws := w_LW_of) BD.pre
  have ht : ∀ w ∈ fm_T, w.before _ s = true := fun w h => hts w (List.mem_cons_of_mem _ h)
  have hown : s.vm.findClass R_LW = some m.cls := findClass_of_methodNamed BD.named
  have hlocks := BD.notSynchronized
  have S : CallFix pg m cd b_LW_of 5 s _ w_LW_of R_LW := ⟨hx, hb, hml, hown, hts⟩
  have htab := vx_table (x := y_LW_of) BD (hts (.codeWith y_LW_of b_LW_of 5 (some .int) [(0, 10, 13, 18), (0, 10, 17, 20)]) List.mem_cons_self)
  have hl := lv_entry ([.ref h, .int (x), .int (y), .ref ou]) (n := 5) (Nat.le_of_ble_eq_true rfl)
  rw [lg_entry_eq]
  generalize (lg_sl ([.ref h, .int (x), .int (y), .ref ou]) ++ List.replicate (5 - (lg_sl ([.ref h, .int (x), .int (y), .ref ou])).length) Slot.unset).toArray = ls at hl ⊢
  have hl : lv_has ls 5 [(0, .ref h), (1, .int (x)), (2, .int (y)), (3, .ref ou)] := hl
  refine lv_aload_n hx hb d_LW_of_0 rfl (lv_at hl 3 rfl) ?_
  refine lv_iconst (v := nI (0)) hx hb d_LW_of_1 (by decide) ?_
  refine lv_aload_n hx hb d_LW_of_2 rfl (lv_at hl 0 rfl) ?_
  refine lv_iload_n hx hb d_LW_of_3 rfl (lv_at hl 1 rfl) ?_
  refine lv_iload_n hx hb d_LW_of_4 rfl (lv_at hl 2 rfl) ?_
  refine fm_tv S (x_FM_ofU l hl0 dC dI h bf li ra rl o sp x y ) rfl rfl k_FM_of q_2_199 ⟨Nat.le_of_ble_eq_true rfl, Nat.le_of_ble_eq_true rfl⟩ (hP.sub [0] rfl) (hK.sub [] rfl) hTh 0 rfl rfl rfl hl.1 rfl (Nat.le_of_ble_eq_true rfl) ⟨Nat.le_of_ble_eq_true rfl, Nat.le_of_ble_eq_true rfl⟩ d_LW_of_5 (fun q9 ce H1 h1 h2 h3 h4 h5 => ?_)
  refine vx_catch (name := fm_IS) (E := fm_IS) hown [] ⟨0, 10, 13, 18⟩ [⟨0, 10, 17, 20⟩] htab (fun z hz => nomatch hz) (by decide) (by decide) (ht _ q_2_146) (va_Nw.use rfl (hTh.1 (.castable fm_IS fm_IS) (List.mem_of_getElem? (i := 1) rfl))) h3 h4 h5 ?_
  refine lv_astore (lv' := [(4, .ref q9), (0, .ref h), (1, .int (x)), (2, .int (y)), (3, .ref ou)]) hx hb d_LW_of_13 hl (by decide) rfl (fun ls hl => ?_)
  refine lv_iconst (v := nI (1)) hx hb d_LW_of_15 (by decide) ?_
  exact W.iret hx hb hr (fun t ht hW => ⟨rfl, by rw [ht]; exact h1, fun q hq _ => by rw [ht]; exact h2 q hq⟩) (fun q hq => by cases hq) d_LW_of_16
set_option maxHeartbeats 4000000 in
set_option maxRecDepth 100000 in
theorem x_LW_partU (l : Launch) (hl0 : l.stackTraces = false) (dC : Nat → ClassId) (dI : Nat → Nat → Nat) (h : Nat) (bf : Nat) (li : Nat) (ra : Nat) (rl : Int32) (o : Nat) (sp : Nat) (x : Int32) (y : Int32) (ou : Nat)  : fm_MC l (dC, dI) y_LW_part w_LW_part ({ frames := 8, cells := 1, slots := 6, locals := 125 }) [.ref h, .int (x), .int (y), .ref ou] [(h, .inr (3, [.ref bf, .ref li, .ref ra, .int (rl), .ref o, .ref sp, .int (nI (0))]))] [] (nI 1) := by
  refine va_MetW (cc := b_LW_part) (maxL := 5) (ret := (some .int)) (by decide) rfl ?_
  intro pg ev s m args below meth cd s₁ BD hml hv
  obtain ⟨rfl, hP, hK, hTh, hNc⟩ := hv
  have hx := BD.exec
  have hb := BD.bytes
  have hr := BD.returns
  have hts := atoms_spec (ws := w_LW_part) BD.pre
  have ht : ∀ w ∈ fm_T, w.before _ s = true := fun w h => hts w (List.mem_cons_of_mem _ h)
  have hown : s.vm.findClass R_LW = some m.cls := findClass_of_methodNamed BD.named
  have hlocks := BD.notSynchronized
  have S : CallFix pg m cd b_LW_part 5 s _ w_LW_part R_LW := ⟨hx, hb, hml, hown, hts⟩
  have htab := vx_table (x := y_LW_part) BD (hts (.codeWith y_LW_part b_LW_part 5 (some .int) [(0, 10, 13, 18), (0, 10, 17, 20)]) List.mem_cons_self)
  have hl := lv_entry ([.ref h, .int (x), .int (y), .ref ou]) (n := 5) (Nat.le_of_ble_eq_true rfl)
  rw [lg_entry_eq]
  generalize (lg_sl ([.ref h, .int (x), .int (y), .ref ou]) ++ List.replicate (5 - (lg_sl ([.ref h, .int (x), .int (y), .ref ou])).length) Slot.unset).toArray = ls at hl ⊢
  have hl : lv_has ls 5 [(0, .ref h), (1, .int (x)), (2, .int (y)), (3, .ref ou)] := hl
  refine lv_aload_n hx hb d_LW_part_0 rfl (lv_at hl 3 rfl) ?_
  refine lv_iconst (v := nI (0)) hx hb d_LW_part_1 (by decide) ?_
  refine lv_aload_n hx hb d_LW_part_2 rfl (lv_at hl 0 rfl) ?_
  refine lv_iload_n hx hb d_LW_part_3 rfl (lv_at hl 1 rfl) ?_
  refine lv_iload_n hx hb d_LW_part_4 rfl (lv_at hl 2 rfl) ?_
  refine fm_tv S (x_FM_partU l hl0 dC dI h bf li ra rl o sp x y ) rfl rfl k_FM_part q_2_230 ⟨Nat.le_of_ble_eq_true rfl, Nat.le_of_ble_eq_true rfl⟩ (hP.sub [0] rfl) (hK.sub [] rfl) hTh 0 rfl rfl rfl hl.1 rfl (Nat.le_of_ble_eq_true rfl) ⟨Nat.le_of_ble_eq_true rfl, Nat.le_of_ble_eq_true rfl⟩ d_LW_part_5 (fun q9 ce H1 h1 h2 h3 h4 h5 => ?_)
  refine vx_catch (name := fm_IS) (E := fm_IS) hown [] ⟨0, 10, 13, 18⟩ [⟨0, 10, 17, 20⟩] htab (fun z hz => nomatch hz) (by decide) (by decide) (ht _ q_2_146) (va_Nw.use rfl (hTh.1 (.castable fm_IS fm_IS) (List.mem_of_getElem? (i := 1) rfl))) h3 h4 h5 ?_
  refine lv_astore (lv' := [(4, .ref q9), (0, .ref h), (1, .int (x)), (2, .int (y)), (3, .ref ou)]) hx hb d_LW_part_13 hl (by decide) rfl (fun ls hl => ?_)
  refine lv_iconst (v := nI (1)) hx hb d_LW_part_15 (by decide) ?_
  exact W.iret hx hb hr (fun t ht hW => ⟨rfl, by rw [ht]; exact h1, fun q hq _ => by rw [ht]; exact h2 q hq⟩) (fun q hq => by cases hq) d_LW_part_16
set_option maxHeartbeats 4000000 in
set_option maxRecDepth 100000 in
theorem x_LW_parameterU (l : Launch) (hl0 : l.stackTraces = false) (dC : Nat → ClassId) (dI : Nat → Nat → Nat) (h : Nat) (bf : Nat) (li : Nat) (ra : Nat) (rl : Int32) (o : Nat) (sp : Nat) (x : Int32) (ou : Nat)  : fm_MC l (dC, dI) y_LW_parameter w_LW_parameter ({ frames := 8, cells := 1, slots := 6, locals := 124 }) [.ref h, .int (x), .ref ou] [(h, .inr (3, [.ref bf, .ref li, .ref ra, .int (rl), .ref o, .ref sp, .int (nI (0))]))] [] (nI 1) := by
  refine va_MetW (cc := b_LW_parameter) (maxL := 4) (ret := (some .int)) (by decide) rfl ?_
  intro pg ev s m args below meth cd s₁ BD hml hv
  obtain ⟨rfl, hP, hK, hTh, hNc⟩ := hv
  have hx := BD.exec
  have hb := BD.bytes
  have hr := BD.returns
  have hts := atoms_spec (ws := w_LW_parameter) BD.pre
  have ht : ∀ w ∈ fm_T, w.before _ s = true := fun w h => hts w (List.mem_cons_of_mem _ h)
  have hown : s.vm.findClass R_LW = some m.cls := findClass_of_methodNamed BD.named
  have hlocks := BD.notSynchronized
  have S : CallFix pg m cd b_LW_parameter 4 s _ w_LW_parameter R_LW := ⟨hx, hb, hml, hown, hts⟩
  have htab := vx_table (x := y_LW_parameter) BD (hts (.codeWith y_LW_parameter b_LW_parameter 4 (some .int) [(0, 9, 12, 18), (0, 9, 15, 20)]) List.mem_cons_self)
  have hl := lv_entry ([.ref h, .int (x), .ref ou]) (n := 4) (Nat.le_of_ble_eq_true rfl)
  rw [lg_entry_eq]
  generalize (lg_sl ([.ref h, .int (x), .ref ou]) ++ List.replicate (4 - (lg_sl ([.ref h, .int (x), .ref ou])).length) Slot.unset).toArray = ls at hl ⊢
  have hl : lv_has ls 4 [(0, .ref h), (1, .int (x)), (2, .ref ou)] := hl
  refine lv_aload_n hx hb d_LW_parameter_0 rfl (lv_at hl 2 rfl) ?_
  refine lv_iconst (v := nI (0)) hx hb d_LW_parameter_1 (by decide) ?_
  refine lv_aload_n hx hb d_LW_parameter_2 rfl (lv_at hl 0 rfl) ?_
  refine lv_iload_n hx hb d_LW_parameter_3 rfl (lv_at hl 1 rfl) ?_
  refine fm_tv S (x_FM_parameterU l hl0 dC dI h bf li ra rl o sp x ) rfl rfl k_FM_parameter q_3_0 ⟨Nat.le_of_ble_eq_true rfl, Nat.le_of_ble_eq_true rfl⟩ (hP.sub [0] rfl) (hK.sub [] rfl) hTh 0 rfl rfl rfl hl.1 rfl (Nat.le_of_ble_eq_true rfl) ⟨Nat.le_of_ble_eq_true rfl, Nat.le_of_ble_eq_true rfl⟩ d_LW_parameter_4 (fun q9 ce H1 h1 h2 h3 h4 h5 => ?_)
  refine vx_catch (name := fm_IS) (E := fm_IS) hown [] ⟨0, 9, 12, 18⟩ [⟨0, 9, 15, 20⟩] htab (fun z hz => nomatch hz) (by decide) (by decide) (ht _ q_2_146) (va_Nw.use rfl (hTh.1 (.castable fm_IS fm_IS) (List.mem_of_getElem? (i := 1) rfl))) h3 h4 h5 ?_
  refine lv_astore_n (lv' := [(3, .ref q9), (0, .ref h), (1, .int (x)), (2, .ref ou)]) hx hb d_LW_parameter_12 rfl hl (by decide) rfl (fun ls hl => ?_)
  refine lv_iconst (v := nI (1)) hx hb d_LW_parameter_13 (by decide) ?_
  exact W.iret hx hb hr (fun t ht hW => ⟨rfl, by rw [ht]; exact h1, fun q hq _ => by rw [ht]; exact h2 q hq⟩) (fun q hq => by cases hq) d_LW_parameter_14
set_option maxHeartbeats 4000000 in
set_option maxRecDepth 100000 in
theorem x_LW_askU (l : Launch) (hl0 : l.stackTraces = false) (dC : Nat → ClassId) (dI : Nat → Nat → Nat) (h : Nat) (bf : Nat) (li : Nat) (ra : Nat) (rl : Int32) (o : Nat) (sp : Nat) (x : Int32) (y : Int32) (ou : Nat)  : fm_MC l (dC, dI) y_LW_ask w_LW_ask ({ frames := 8, cells := 1, slots := 6, locals := 124 }) [.ref h, .int (x), .int (y), .ref ou] [(h, .inr (3, [.ref bf, .ref li, .ref ra, .int (rl), .ref o, .ref sp, .int (nI (0))]))] [] (nI 1) := by
  refine va_MetW (cc := b_LW_ask) (maxL := 5) (ret := (some .int)) (by decide) rfl ?_
  intro pg ev s m args below meth cd s₁ BD hml hv
  obtain ⟨rfl, hP, hK, hTh, hNc⟩ := hv
  have hx := BD.exec
  have hb := BD.bytes
  have hr := BD.returns
  have hts := atoms_spec (ws := w_LW_ask) BD.pre
  have ht : ∀ w ∈ fm_T, w.before _ s = true := fun w h => hts w (List.mem_cons_of_mem _ h)
  have hown : s.vm.findClass R_LW = some m.cls := findClass_of_methodNamed BD.named
  have hlocks := BD.notSynchronized
  have S : CallFix pg m cd b_LW_ask 5 s _ w_LW_ask R_LW := ⟨hx, hb, hml, hown, hts⟩
  have htab := vx_table (x := y_LW_ask) BD (hts (.codeWith y_LW_ask b_LW_ask 5 (some .int) [(0, 10, 13, 18), (0, 10, 17, 20)]) List.mem_cons_self)
  have hl := lv_entry ([.ref h, .int (x), .int (y), .ref ou]) (n := 5) (Nat.le_of_ble_eq_true rfl)
  rw [lg_entry_eq]
  generalize (lg_sl ([.ref h, .int (x), .int (y), .ref ou]) ++ List.replicate (5 - (lg_sl ([.ref h, .int (x), .int (y), .ref ou])).length) Slot.unset).toArray = ls at hl ⊢
  have hl : lv_has ls 5 [(0, .ref h), (1, .int (x)), (2, .int (y)), (3, .ref ou)] := hl
  refine lv_aload_n hx hb d_LW_ask_0 rfl (lv_at hl 3 rfl) ?_
  refine lv_iconst (v := nI (0)) hx hb d_LW_ask_1 (by decide) ?_
  refine lv_aload_n hx hb d_LW_ask_2 rfl (lv_at hl 0 rfl) ?_
  refine lv_iload_n hx hb d_LW_ask_3 rfl (lv_at hl 1 rfl) ?_
  refine lv_iload_n hx hb d_LW_ask_4 rfl (lv_at hl 2 rfl) ?_
  refine fm_tv S (x_FM_askU l hl0 dC dI h bf li ra rl o sp x y ) rfl rfl k_FM_ask q_3_9 ⟨Nat.le_of_ble_eq_true rfl, Nat.le_of_ble_eq_true rfl⟩ (hP.sub [0] rfl) (hK.sub [] rfl) hTh 0 rfl rfl rfl hl.1 rfl (Nat.le_of_ble_eq_true rfl) ⟨Nat.le_of_ble_eq_true rfl, Nat.le_of_ble_eq_true rfl⟩ d_LW_ask_5 (fun q9 ce H1 h1 h2 h3 h4 h5 => ?_)
  refine vx_catch (name := fm_IS) (E := fm_IS) hown [] ⟨0, 10, 13, 18⟩ [⟨0, 10, 17, 20⟩] htab (fun z hz => nomatch hz) (by decide) (by decide) (ht _ q_2_146) (va_Nw.use rfl (hTh.1 (.castable fm_IS fm_IS) (List.mem_of_getElem? (i := 1) rfl))) h3 h4 h5 ?_
  refine lv_astore (lv' := [(4, .ref q9), (0, .ref h), (1, .int (x)), (2, .int (y)), (3, .ref ou)]) hx hb d_LW_ask_13 hl (by decide) rfl (fun ls hl => ?_)
  refine lv_iconst (v := nI (1)) hx hb d_LW_ask_15 (by decide) ?_
  exact W.iret hx hb hr (fun t ht hW => ⟨rfl, by rw [ht]; exact h1, fun q hq _ => by rw [ht]; exact h2 q hq⟩) (fun q hq => by cases hq) d_LW_ask_16
set_option maxHeartbeats 4000000 in
set_option maxRecDepth 100000 in
theorem x_LW_setU (l : Launch) (hl0 : l.stackTraces = false) (dC : Nat → ClassId) (dI : Nat → Nat → Nat) (h : Nat) (bf : Nat) (li : Nat) (ra : Nat) (rl : Int32) (o : Nat) (sp : Nat) (ou : Nat)  : fm_MC l (dC, dI) y_LW_set w_LW_set ({ frames := 8, cells := 1, slots := 6, locals := 122 }) [.ref h, .ref ou] [(h, .inr (3, [.ref bf, .ref li, .ref ra, .int (rl), .ref o, .ref sp, .int (nI (0))]))] [] (nI 1) := by
  refine va_MetW (cc := b_LW_set) (maxL := 3) (ret := (some .int)) (by decide) rfl ?_
  intro pg ev s m args below meth cd s₁ BD hml hv
  obtain ⟨rfl, hP, hK, hTh, hNc⟩ := hv
  have hx := BD.exec
  have hb := BD.bytes
  have hr := BD.returns
  have hts := atoms_spec (ws := w_LW_set) BD.pre
  have ht : ∀ w ∈ fm_T, w.before _ s = true := fun w h => hts w (List.mem_cons_of_mem _ h)
  have hown : s.vm.findClass R_LW = some m.cls := findClass_of_methodNamed BD.named
  have hlocks := BD.notSynchronized
  have S : CallFix pg m cd b_LW_set 3 s _ w_LW_set R_LW := ⟨hx, hb, hml, hown, hts⟩
  have htab := vx_table (x := y_LW_set) BD (hts (.codeWith y_LW_set b_LW_set 3 (some .int) [(0, 8, 11, 18)]) List.mem_cons_self)
  have hl := lv_entry ([.ref h, .ref ou]) (n := 3) (Nat.le_of_ble_eq_true rfl)
  rw [lg_entry_eq]
  generalize (lg_sl ([.ref h, .ref ou]) ++ List.replicate (3 - (lg_sl ([.ref h, .ref ou])).length) Slot.unset).toArray = ls at hl ⊢
  have hl : lv_has ls 3 [(0, .ref h), (1, .ref ou)] := hl
  refine lv_aload_n hx hb d_LW_set_0 rfl (lv_at hl 1 rfl) ?_
  refine lv_iconst (v := nI (0)) hx hb d_LW_set_1 (by decide) ?_
  refine lv_aload_n hx hb d_LW_set_2 rfl (lv_at hl 0 rfl) ?_
  refine fm_tv S (x_FM_setU l hl0 dC dI h bf li ra rl o sp ) rfl rfl k_FM_set q_3_36 ⟨Nat.le_of_ble_eq_true rfl, Nat.le_of_ble_eq_true rfl⟩ (hP.sub [0] rfl) (hK.sub [] rfl) hTh 0 rfl rfl rfl hl.1 rfl (Nat.le_of_ble_eq_true rfl) ⟨Nat.le_of_ble_eq_true rfl, Nat.le_of_ble_eq_true rfl⟩ d_LW_set_3 (fun q9 ce H1 h1 h2 h3 h4 h5 => ?_)
  refine vx_catch (name := fm_IS) (E := fm_IS) hown [] ⟨0, 8, 11, 18⟩ [] htab (fun z hz => nomatch hz) (by decide) (by decide) (ht _ q_2_146) (va_Nw.use rfl (hTh.1 (.castable fm_IS fm_IS) (List.mem_of_getElem? (i := 1) rfl))) h3 h4 h5 ?_
  refine lv_astore_n (lv' := [(2, .ref q9), (0, .ref h), (1, .ref ou)]) hx hb d_LW_set_11 rfl hl (by decide) rfl (fun ls hl => ?_)
  refine lv_iconst (v := nI (1)) hx hb d_LW_set_12 (by decide) ?_
  exact W.iret hx hb hr (fun t ht hW => ⟨rfl, by rw [ht]; exact h1, fun q hq _ => by rw [ht]; exact h2 q hq⟩) (fun q hq => by cases hq) d_LW_set_13
set_option maxHeartbeats 4000000 in
set_option maxRecDepth 100000 in
theorem x_LW_aboutN (l : Launch) (hl0 : l.stackTraces = false) (dC : Nat → ClassId) (dI : Nat → Nat → Nat) (h : Nat) (bf : Nat) (li : Nat) (ra : Nat) (rl : Int32) (o : Nat) (sp : Nat) (wa : Nat) (sa : Nat) (la : Nat) (s0 : Nat) (cI : ClassId) (B : Nat → Nat) (w : Nat → Int32) (st : Nat → Int32) (ln : Nat → Int32) (x : Int32) (ou : Nat) (hF : fm_FO B w st ln) (hno : x < 0 ∨ nI 6 < x) : fm_MC l (dC, dI) y_LW_about w_LW_about ({ frames := 7, cells := 1, slots := 6, locals := 103 }) [.ref h, .int (x), .ref ou] [(h, .inr (3, [.ref bf, .ref li, .ref ra, .int (rl), .ref o, .ref sp, .int (nI (1))])), (o, .inr (1, [.ref wa, .ref sa, .ref la, .int (nI (fm_HF B 2)), .int (nI (fm_HF B 3)), .int (nI (s0)), .int (nI (fm_z s0)), .int (nI (fm_h s0))])), (wa, .inl (cI, 2048, .inl (w))), (sa, .inl (cI, 10, .inl (st))), (la, .inl (cI, 10, .inl (ln)))] [(cI, .int)] (nI 2) := by
  refine va_MetW (cc := b_LW_about) (maxL := 4) (ret := (some .int)) (by decide) rfl ?_
  intro pg ev s m args below meth cd s₁ BD hml hv
  obtain ⟨rfl, hP, hK, hTh, hNc⟩ := hv
  have hx := BD.exec
  have hb := BD.bytes
  have hr := BD.returns
  have hts := atoms_spec (ws := w_LW_about) BD.pre
  have ht : ∀ w ∈ fm_T, w.before _ s = true := fun w h => hts w (List.mem_cons_of_mem _ h)
  have hown : s.vm.findClass R_LW = some m.cls := findClass_of_methodNamed BD.named
  have hlocks := BD.notSynchronized
  have S : CallFix pg m cd b_LW_about 4 s _ w_LW_about R_LW := ⟨hx, hb, hml, hown, hts⟩
  have htab := vx_table (x := y_LW_about) BD (hts (.codeWith y_LW_about b_LW_about 4 (some .int) [(0, 9, 12, 18), (0, 9, 15, 20)]) List.mem_cons_self)
  have hl := lv_entry ([.ref h, .int (x), .ref ou]) (n := 4) (Nat.le_of_ble_eq_true rfl)
  rw [lg_entry_eq]
  generalize (lg_sl ([.ref h, .int (x), .ref ou]) ++ List.replicate (4 - (lg_sl ([.ref h, .int (x), .ref ou])).length) Slot.unset).toArray = ls at hl ⊢
  have hl : lv_has ls 4 [(0, .ref h), (1, .int (x)), (2, .ref ou)] := hl
  refine lv_aload_n hx hb d_LW_about_0 rfl (lv_at hl 2 rfl) ?_
  refine lv_iconst (v := nI (0)) hx hb d_LW_about_1 (by decide) ?_
  refine lv_aload_n hx hb d_LW_about_2 rfl (lv_at hl 0 rfl) ?_
  refine lv_iload_n hx hb d_LW_about_3 rfl (lv_at hl 1 rfl) ?_
  refine fm_tv S (x_FM_aboutN l hl0 dC dI h bf li ra rl o sp wa sa la s0 cI B w st ln x (hF) (hno)) rfl rfl k_FM_about q_2_148 ⟨Nat.le_of_ble_eq_true rfl, Nat.le_of_ble_eq_true rfl⟩ (hP.sub [0, 1, 2, 3, 4] rfl) (hK.sub [0] rfl) hTh 0 rfl rfl rfl hl.1 rfl (Nat.le_of_ble_eq_true rfl) ⟨Nat.le_of_ble_eq_true rfl, Nat.le_of_ble_eq_true rfl⟩ d_LW_about_4 (fun q9 ce H1 h1 h2 h3 h4 h5 => ?_)
  refine vx_catch (name := fm_IO) (E := fm_IO) hown [⟨0, 9, 12, 18⟩] ⟨0, 9, 15, 20⟩ [] htab (fun z hz => by cases List.mem_singleton.mp hz; exact Or.inr ⟨by decide, fm_IS, ht _ q_2_146, hNc⟩) (by decide) (by decide) (ht _ q_2_147) (va_Nw.use rfl (hTh.1 (.castable fm_IO fm_IO) (List.mem_of_getElem? (i := 2) rfl))) h3 h4 h5 ?_
  refine lv_astore_n (lv' := [(3, .ref q9), (0, .ref h), (1, .int (x)), (2, .ref ou)]) hx hb d_LW_about_15 rfl hl (by decide) rfl (fun ls hl => ?_)
  refine lv_iconst (v := nI (2)) hx hb d_LW_about_16 (by decide) ?_
  exact W.iret hx hb hr (fun t ht hW => ⟨rfl, by rw [ht]; exact h1, fun q hq _ => by rw [ht]; exact h2 q hq⟩) (fun q hq => by cases hq) d_LW_about_17
set_option maxHeartbeats 4000000 in
set_option maxRecDepth 100000 in
theorem x_LW_ofN1 (l : Launch) (hl0 : l.stackTraces = false) (dC : Nat → ClassId) (dI : Nat → Nat → Nat) (h : Nat) (bf : Nat) (li : Nat) (ra : Nat) (rl : Int32) (o : Nat) (sp : Nat) (wa : Nat) (sa : Nat) (la : Nat) (s0 : Nat) (cI : ClassId) (B : Nat → Nat) (w : Nat → Int32) (st : Nat → Int32) (ln : Nat → Int32) (x : Int32) (y : Int32) (ou : Nat) (hF : fm_FO B w st ln) (hno : fm_thI B x = false) : fm_MC l (dC, dI) y_LW_of w_LW_of ({ frames := 8, cells := 1, slots := 6, locals := 125 }) [.ref h, .int (x), .int (y), .ref ou] [(h, .inr (3, [.ref bf, .ref li, .ref ra, .int (rl), .ref o, .ref sp, .int (nI (1))])), (o, .inr (1, [.ref wa, .ref sa, .ref la, .int (nI (fm_HF B 2)), .int (nI (fm_HF B 3)), .int (nI (s0)), .int (nI (fm_z s0)), .int (nI (fm_h s0))])), (wa, .inl (cI, 2048, .inl (w))), (sa, .inl (cI, 10, .inl (st))), (la, .inl (cI, 10, .inl (ln)))] [(cI, .int)] (nI 2) := by
  refine va_MetW (cc := b_LW_of) (maxL := 5) (ret := (some .int)) (by decide) rfl ?_
  intro pg ev s m args below meth cd s₁ BD hml hv
  obtain ⟨rfl, hP, hK, hTh, hNc⟩ := hv
  have hx := BD.exec
  have hb := BD.bytes
  have hr := BD.returns
  have hts := atoms_spec (ws := w_LW_of) BD.pre
  have ht : ∀ w ∈ fm_T, w.before _ s = true := fun w h => hts w (List.mem_cons_of_mem _ h)
  have hown : s.vm.findClass R_LW = some m.cls := findClass_of_methodNamed BD.named
  have hlocks := BD.notSynchronized
  have S : CallFix pg m cd b_LW_of 5 s _ w_LW_of R_LW := ⟨hx, hb, hml, hown, hts⟩
  have htab := vx_table (x := y_LW_of) BD (hts (.codeWith y_LW_of b_LW_of 5 (some .int) [(0, 10, 13, 18), (0, 10, 17, 20)]) List.mem_cons_self)
  have hl := lv_entry ([.ref h, .int (x), .int (y), .ref ou]) (n := 5) (Nat.le_of_ble_eq_true rfl)
  rw [lg_entry_eq]
  generalize (lg_sl ([.ref h, .int (x), .int (y), .ref ou]) ++ List.replicate (5 - (lg_sl ([.ref h, .int (x), .int (y), .ref ou])).length) Slot.unset).toArray = ls at hl ⊢
  have hl : lv_has ls 5 [(0, .ref h), (1, .int (x)), (2, .int (y)), (3, .ref ou)] := hl
  refine lv_aload_n hx hb d_LW_of_0 rfl (lv_at hl 3 rfl) ?_
  refine lv_iconst (v := nI (0)) hx hb d_LW_of_1 (by decide) ?_
  refine lv_aload_n hx hb d_LW_of_2 rfl (lv_at hl 0 rfl) ?_
  refine lv_iload_n hx hb d_LW_of_3 rfl (lv_at hl 1 rfl) ?_
  refine lv_iload_n hx hb d_LW_of_4 rfl (lv_at hl 2 rfl) ?_
  refine fm_tv S (x_FM_ofN1 l hl0 dC dI h bf li ra rl o sp wa sa la s0 cI B w st ln x y (hF) (hno)) rfl rfl k_FM_of q_2_199 ⟨Nat.le_of_ble_eq_true rfl, Nat.le_of_ble_eq_true rfl⟩ (hP.sub [0, 1, 2, 3, 4] rfl) (hK.sub [0] rfl) hTh 0 rfl rfl rfl hl.1 rfl (Nat.le_of_ble_eq_true rfl) ⟨Nat.le_of_ble_eq_true rfl, Nat.le_of_ble_eq_true rfl⟩ d_LW_of_5 (fun q9 ce H1 h1 h2 h3 h4 h5 => ?_)
  refine vx_catch (name := fm_IO) (E := fm_IO) hown [⟨0, 10, 13, 18⟩] ⟨0, 10, 17, 20⟩ [] htab (fun z hz => by cases List.mem_singleton.mp hz; exact Or.inr ⟨by decide, fm_IS, ht _ q_2_146, hNc⟩) (by decide) (by decide) (ht _ q_2_147) (va_Nw.use rfl (hTh.1 (.castable fm_IO fm_IO) (List.mem_of_getElem? (i := 2) rfl))) h3 h4 h5 ?_
  refine lv_astore (lv' := [(4, .ref q9), (0, .ref h), (1, .int (x)), (2, .int (y)), (3, .ref ou)]) hx hb d_LW_of_17 hl (by decide) rfl (fun ls hl => ?_)
  refine lv_iconst (v := nI (2)) hx hb d_LW_of_19 (by decide) ?_
  exact W.iret hx hb hr (fun t ht hW => ⟨rfl, by rw [ht]; exact h1, fun q hq _ => by rw [ht]; exact h2 q hq⟩) (fun q hq => by cases hq) d_LW_of_20
set_option maxHeartbeats 4000000 in
set_option maxRecDepth 100000 in
theorem x_LW_ofN2 (l : Launch) (hl0 : l.stackTraces = false) (dC : Nat → ClassId) (dI : Nat → Nat → Nat) (h : Nat) (bf : Nat) (li : Nat) (ra : Nat) (rl : Int32) (o : Nat) (sp : Nat) (wa : Nat) (sa : Nat) (la : Nat) (s0 : Nat) (cI : ClassId) (B : Nat → Nat) (w : Nat → Int32) (st : Nat → Int32) (ln : Nat → Int32) (c : Nat) (y : Int32) (ou : Nat) (hF : fm_FO B w st ln) (hth : fm_th B c = true) (hc31 : c < 2 ^ 31) (hno : y < 0 ∨ nI 5 < y) : fm_MC l (dC, dI) y_LW_of w_LW_of ({ frames := 7, cells := 1, slots := 6, locals := 108 }) [.ref h, .int (nI (c)), .int (y), .ref ou] [(h, .inr (3, [.ref bf, .ref li, .ref ra, .int (rl), .ref o, .ref sp, .int (nI (1))])), (o, .inr (1, [.ref wa, .ref sa, .ref la, .int (nI (fm_HF B 2)), .int (nI (fm_HF B 3)), .int (nI (s0)), .int (nI (fm_z s0)), .int (nI (fm_h s0))])), (wa, .inl (cI, 2048, .inl (w))), (sa, .inl (cI, 10, .inl (st))), (la, .inl (cI, 10, .inl (ln)))] [(cI, .int)] (nI 2) := by
  refine va_MetW (cc := b_LW_of) (maxL := 5) (ret := (some .int)) (by decide) rfl ?_
  intro pg ev s m args below meth cd s₁ BD hml hv
  obtain ⟨rfl, hP, hK, hTh, hNc⟩ := hv
  have hx := BD.exec
  have hb := BD.bytes
  have hr := BD.returns
  have hts := atoms_spec (ws := w_LW_of) BD.pre
  have ht : ∀ w ∈ fm_T, w.before _ s = true := fun w h => hts w (List.mem_cons_of_mem _ h)
  have hown : s.vm.findClass R_LW = some m.cls := findClass_of_methodNamed BD.named
  have hlocks := BD.notSynchronized
  have S : CallFix pg m cd b_LW_of 5 s _ w_LW_of R_LW := ⟨hx, hb, hml, hown, hts⟩
  have htab := vx_table (x := y_LW_of) BD (hts (.codeWith y_LW_of b_LW_of 5 (some .int) [(0, 10, 13, 18), (0, 10, 17, 20)]) List.mem_cons_self)
  have hl := lv_entry ([.ref h, .int (nI (c)), .int (y), .ref ou]) (n := 5) (Nat.le_of_ble_eq_true rfl)
  rw [lg_entry_eq]
  generalize (lg_sl ([.ref h, .int (nI (c)), .int (y), .ref ou]) ++ List.replicate (5 - (lg_sl ([.ref h, .int (nI (c)), .int (y), .ref ou])).length) Slot.unset).toArray = ls at hl ⊢
  have hl : lv_has ls 5 [(0, .ref h), (1, .int (nI (c))), (2, .int (y)), (3, .ref ou)] := hl
  refine lv_aload_n hx hb d_LW_of_0 rfl (lv_at hl 3 rfl) ?_
  refine lv_iconst (v := nI (0)) hx hb d_LW_of_1 (by decide) ?_
  refine lv_aload_n hx hb d_LW_of_2 rfl (lv_at hl 0 rfl) ?_
  refine lv_iload_n hx hb d_LW_of_3 rfl (lv_at hl 1 rfl) ?_
  refine lv_iload_n hx hb d_LW_of_4 rfl (lv_at hl 2 rfl) ?_
  refine fm_tv S (x_FM_ofN2 l hl0 dC dI h bf li ra rl o sp wa sa la s0 cI B w st ln c y (hF) (hth) (hc31) (hno)) rfl rfl k_FM_of q_2_199 ⟨Nat.le_of_ble_eq_true rfl, Nat.le_of_ble_eq_true rfl⟩ (hP.sub [0, 1, 2, 3, 4] rfl) (hK.sub [0] rfl) hTh 0 rfl rfl rfl hl.1 rfl (Nat.le_of_ble_eq_true rfl) ⟨Nat.le_of_ble_eq_true rfl, Nat.le_of_ble_eq_true rfl⟩ d_LW_of_5 (fun q9 ce H1 h1 h2 h3 h4 h5 => ?_)
  refine vx_catch (name := fm_IO) (E := fm_IO) hown [⟨0, 10, 13, 18⟩] ⟨0, 10, 17, 20⟩ [] htab (fun z hz => by cases List.mem_singleton.mp hz; exact Or.inr ⟨by decide, fm_IS, ht _ q_2_146, hNc⟩) (by decide) (by decide) (ht _ q_2_147) (va_Nw.use rfl (hTh.1 (.castable fm_IO fm_IO) (List.mem_of_getElem? (i := 2) rfl))) h3 h4 h5 ?_
  refine lv_astore (lv' := [(4, .ref q9), (0, .ref h), (1, .int (nI (c))), (2, .int (y)), (3, .ref ou)]) hx hb d_LW_of_17 hl (by decide) rfl (fun ls hl => ?_)
  refine lv_iconst (v := nI (2)) hx hb d_LW_of_19 (by decide) ?_
  exact W.iret hx hb hr (fun t ht hW => ⟨rfl, by rw [ht]; exact h1, fun q hq _ => by rw [ht]; exact h2 q hq⟩) (fun q hq => by cases hq) d_LW_of_20
set_option maxHeartbeats 4000000 in
set_option maxRecDepth 100000 in
theorem x_LW_partN1 (l : Launch) (hl0 : l.stackTraces = false) (dC : Nat → ClassId) (dI : Nat → Nat → Nat) (h : Nat) (bf : Nat) (li : Nat) (ra : Nat) (rl : Int32) (o : Nat) (sp : Nat) (wa : Nat) (sa : Nat) (la : Nat) (s0 : Nat) (cI : ClassId) (B : Nat → Nat) (w : Nat → Int32) (st : Nat → Int32) (ln : Nat → Int32) (x : Int32) (y : Int32) (ou : Nat) (hF : fm_FO B w st ln) (hno : fm_thI B x = false) : fm_MC l (dC, dI) y_LW_part w_LW_part ({ frames := 8, cells := 1, slots := 6, locals := 126 }) [.ref h, .int (x), .int (y), .ref ou] [(h, .inr (3, [.ref bf, .ref li, .ref ra, .int (rl), .ref o, .ref sp, .int (nI (1))])), (o, .inr (1, [.ref wa, .ref sa, .ref la, .int (nI (fm_HF B 2)), .int (nI (fm_HF B 3)), .int (nI (s0)), .int (nI (fm_z s0)), .int (nI (fm_h s0))])), (wa, .inl (cI, 2048, .inl (w))), (sa, .inl (cI, 10, .inl (st))), (la, .inl (cI, 10, .inl (ln)))] [(cI, .int)] (nI 2) := by
  refine va_MetW (cc := b_LW_part) (maxL := 5) (ret := (some .int)) (by decide) rfl ?_
  intro pg ev s m args below meth cd s₁ BD hml hv
  obtain ⟨rfl, hP, hK, hTh, hNc⟩ := hv
  have hx := BD.exec
  have hb := BD.bytes
  have hr := BD.returns
  have hts := atoms_spec (ws := w_LW_part) BD.pre
  have ht : ∀ w ∈ fm_T, w.before _ s = true := fun w h => hts w (List.mem_cons_of_mem _ h)
  have hown : s.vm.findClass R_LW = some m.cls := findClass_of_methodNamed BD.named
  have hlocks := BD.notSynchronized
  have S : CallFix pg m cd b_LW_part 5 s _ w_LW_part R_LW := ⟨hx, hb, hml, hown, hts⟩
  have htab := vx_table (x := y_LW_part) BD (hts (.codeWith y_LW_part b_LW_part 5 (some .int) [(0, 10, 13, 18), (0, 10, 17, 20)]) List.mem_cons_self)
  have hl := lv_entry ([.ref h, .int (x), .int (y), .ref ou]) (n := 5) (Nat.le_of_ble_eq_true rfl)
  rw [lg_entry_eq]
  generalize (lg_sl ([.ref h, .int (x), .int (y), .ref ou]) ++ List.replicate (5 - (lg_sl ([.ref h, .int (x), .int (y), .ref ou])).length) Slot.unset).toArray = ls at hl ⊢
  have hl : lv_has ls 5 [(0, .ref h), (1, .int (x)), (2, .int (y)), (3, .ref ou)] := hl
  refine lv_aload_n hx hb d_LW_part_0 rfl (lv_at hl 3 rfl) ?_
  refine lv_iconst (v := nI (0)) hx hb d_LW_part_1 (by decide) ?_
  refine lv_aload_n hx hb d_LW_part_2 rfl (lv_at hl 0 rfl) ?_
  refine lv_iload_n hx hb d_LW_part_3 rfl (lv_at hl 1 rfl) ?_
  refine lv_iload_n hx hb d_LW_part_4 rfl (lv_at hl 2 rfl) ?_
  refine fm_tv S (x_FM_partN1 l hl0 dC dI h bf li ra rl o sp wa sa la s0 cI B w st ln x y (hF) (hno)) rfl rfl k_FM_part q_2_230 ⟨Nat.le_of_ble_eq_true rfl, Nat.le_of_ble_eq_true rfl⟩ (hP.sub [0, 1, 2, 3, 4] rfl) (hK.sub [0] rfl) hTh 0 rfl rfl rfl hl.1 rfl (Nat.le_of_ble_eq_true rfl) ⟨Nat.le_of_ble_eq_true rfl, Nat.le_of_ble_eq_true rfl⟩ d_LW_part_5 (fun q9 ce H1 h1 h2 h3 h4 h5 => ?_)
  refine vx_catch (name := fm_IO) (E := fm_IO) hown [⟨0, 10, 13, 18⟩] ⟨0, 10, 17, 20⟩ [] htab (fun z hz => by cases List.mem_singleton.mp hz; exact Or.inr ⟨by decide, fm_IS, ht _ q_2_146, hNc⟩) (by decide) (by decide) (ht _ q_2_147) (va_Nw.use rfl (hTh.1 (.castable fm_IO fm_IO) (List.mem_of_getElem? (i := 2) rfl))) h3 h4 h5 ?_
  refine lv_astore (lv' := [(4, .ref q9), (0, .ref h), (1, .int (x)), (2, .int (y)), (3, .ref ou)]) hx hb d_LW_part_17 hl (by decide) rfl (fun ls hl => ?_)
  refine lv_iconst (v := nI (2)) hx hb d_LW_part_19 (by decide) ?_
  exact W.iret hx hb hr (fun t ht hW => ⟨rfl, by rw [ht]; exact h1, fun q hq _ => by rw [ht]; exact h2 q hq⟩) (fun q hq => by cases hq) d_LW_part_20
set_option maxHeartbeats 4000000 in
set_option maxRecDepth 100000 in
theorem x_LW_partN2 (l : Launch) (hl0 : l.stackTraces = false) (dC : Nat → ClassId) (dI : Nat → Nat → Nat) (h : Nat) (bf : Nat) (li : Nat) (ra : Nat) (rl : Int32) (o : Nat) (sp : Nat) (wa : Nat) (sa : Nat) (la : Nat) (s0 : Nat) (cI : ClassId) (B : Nat → Nat) (w : Nat → Int32) (st : Nat → Int32) (ln : Nat → Int32) (c : Nat) (y : Int32) (ou : Nat) (hF : fm_FO B w st ln) (hth : fm_th B c = true) (hc31 : c < 2 ^ 31) (hno : fm_tag B c ≠ 3 ∨ y < 0 ∨ nI 3 < y) : fm_MC l (dC, dI) y_LW_part w_LW_part ({ frames := 7, cells := 1, slots := 6, locals := 109 }) [.ref h, .int (nI (c)), .int (y), .ref ou] [(h, .inr (3, [.ref bf, .ref li, .ref ra, .int (rl), .ref o, .ref sp, .int (nI (1))])), (o, .inr (1, [.ref wa, .ref sa, .ref la, .int (nI (fm_HF B 2)), .int (nI (fm_HF B 3)), .int (nI (s0)), .int (nI (fm_z s0)), .int (nI (fm_h s0))])), (wa, .inl (cI, 2048, .inl (w))), (sa, .inl (cI, 10, .inl (st))), (la, .inl (cI, 10, .inl (ln)))] [(cI, .int)] (nI 2) := by
  refine va_MetW (cc := b_LW_part) (maxL := 5) (ret := (some .int)) (by decide) rfl ?_
  intro pg ev s m args below meth cd s₁ BD hml hv
  obtain ⟨rfl, hP, hK, hTh, hNc⟩ := hv
  have hx := BD.exec
  have hb := BD.bytes
  have hr := BD.returns
  have hts := atoms_spec (ws := w_LW_part) BD.pre
  have ht : ∀ w ∈ fm_T, w.before _ s = true := fun w h => hts w (List.mem_cons_of_mem _ h)
  have hown : s.vm.findClass R_LW = some m.cls := findClass_of_methodNamed BD.named
  have hlocks := BD.notSynchronized
  have S : CallFix pg m cd b_LW_part 5 s _ w_LW_part R_LW := ⟨hx, hb, hml, hown, hts⟩
  have htab := vx_table (x := y_LW_part) BD (hts (.codeWith y_LW_part b_LW_part 5 (some .int) [(0, 10, 13, 18), (0, 10, 17, 20)]) List.mem_cons_self)
  have hl := lv_entry ([.ref h, .int (nI (c)), .int (y), .ref ou]) (n := 5) (Nat.le_of_ble_eq_true rfl)
  rw [lg_entry_eq]
  generalize (lg_sl ([.ref h, .int (nI (c)), .int (y), .ref ou]) ++ List.replicate (5 - (lg_sl ([.ref h, .int (nI (c)), .int (y), .ref ou])).length) Slot.unset).toArray = ls at hl ⊢
  have hl : lv_has ls 5 [(0, .ref h), (1, .int (nI (c))), (2, .int (y)), (3, .ref ou)] := hl
  refine lv_aload_n hx hb d_LW_part_0 rfl (lv_at hl 3 rfl) ?_
  refine lv_iconst (v := nI (0)) hx hb d_LW_part_1 (by decide) ?_
  refine lv_aload_n hx hb d_LW_part_2 rfl (lv_at hl 0 rfl) ?_
  refine lv_iload_n hx hb d_LW_part_3 rfl (lv_at hl 1 rfl) ?_
  refine lv_iload_n hx hb d_LW_part_4 rfl (lv_at hl 2 rfl) ?_
  refine fm_tv S (x_FM_partN2 l hl0 dC dI h bf li ra rl o sp wa sa la s0 cI B w st ln c y (hF) (hth) (hc31) (hno)) rfl rfl k_FM_part q_2_230 ⟨Nat.le_of_ble_eq_true rfl, Nat.le_of_ble_eq_true rfl⟩ (hP.sub [0, 1, 2, 3, 4] rfl) (hK.sub [0] rfl) hTh 0 rfl rfl rfl hl.1 rfl (Nat.le_of_ble_eq_true rfl) ⟨Nat.le_of_ble_eq_true rfl, Nat.le_of_ble_eq_true rfl⟩ d_LW_part_5 (fun q9 ce H1 h1 h2 h3 h4 h5 => ?_)
  refine vx_catch (name := fm_IO) (E := fm_IO) hown [⟨0, 10, 13, 18⟩] ⟨0, 10, 17, 20⟩ [] htab (fun z hz => by cases List.mem_singleton.mp hz; exact Or.inr ⟨by decide, fm_IS, ht _ q_2_146, hNc⟩) (by decide) (by decide) (ht _ q_2_147) (va_Nw.use rfl (hTh.1 (.castable fm_IO fm_IO) (List.mem_of_getElem? (i := 2) rfl))) h3 h4 h5 ?_
  refine lv_astore (lv' := [(4, .ref q9), (0, .ref h), (1, .int (nI (c))), (2, .int (y)), (3, .ref ou)]) hx hb d_LW_part_17 hl (by decide) rfl (fun ls hl => ?_)
  refine lv_iconst (v := nI (2)) hx hb d_LW_part_19 (by decide) ?_
  exact W.iret hx hb hr (fun t ht hW => ⟨rfl, by rw [ht]; exact h1, fun q hq _ => by rw [ht]; exact h2 q hq⟩) (fun q hq => by cases hq) d_LW_part_20
set_option maxHeartbeats 4000000 in
set_option maxRecDepth 100000 in
theorem x_LW_parameterN (l : Launch) (hl0 : l.stackTraces = false) (dC : Nat → ClassId) (dI : Nat → Nat → Nat) (h : Nat) (bf : Nat) (li : Nat) (ra : Nat) (rl : Int32) (o : Nat) (sp : Nat) (wa : Nat) (sa : Nat) (la : Nat) (s0 : Nat) (cI : ClassId) (B : Nat → Nat) (w : Nat → Int32) (st : Nat → Int32) (ln : Nat → Int32) (x : Int32) (ou : Nat) (hF : fm_FO B w st ln) (hno : x < nI 1 ∨ nI (fm_WD B 9) < x) : fm_MC l (dC, dI) y_LW_parameter w_LW_parameter ({ frames := 7, cells := 1, slots := 6, locals := 104 }) [.ref h, .int (x), .ref ou] [(h, .inr (3, [.ref bf, .ref li, .ref ra, .int (rl), .ref o, .ref sp, .int (nI (1))])), (o, .inr (1, [.ref wa, .ref sa, .ref la, .int (nI (fm_HF B 2)), .int (nI (fm_HF B 3)), .int (nI (s0)), .int (nI (fm_z s0)), .int (nI (fm_h s0))])), (wa, .inl (cI, 2048, .inl (w))), (sa, .inl (cI, 10, .inl (st))), (la, .inl (cI, 10, .inl (ln)))] [(cI, .int)] (nI 2) := by
  refine va_MetW (cc := b_LW_parameter) (maxL := 4) (ret := (some .int)) (by decide) rfl ?_
  intro pg ev s m args below meth cd s₁ BD hml hv
  obtain ⟨rfl, hP, hK, hTh, hNc⟩ := hv
  have hx := BD.exec
  have hb := BD.bytes
  have hr := BD.returns
  have hts := atoms_spec (ws := w_LW_parameter) BD.pre
  have ht : ∀ w ∈ fm_T, w.before _ s = true := fun w h => hts w (List.mem_cons_of_mem _ h)
  have hown : s.vm.findClass R_LW = some m.cls := findClass_of_methodNamed BD.named
  have hlocks := BD.notSynchronized
  have S : CallFix pg m cd b_LW_parameter 4 s _ w_LW_parameter R_LW := ⟨hx, hb, hml, hown, hts⟩
  have htab := vx_table (x := y_LW_parameter) BD (hts (.codeWith y_LW_parameter b_LW_parameter 4 (some .int) [(0, 9, 12, 18), (0, 9, 15, 20)]) List.mem_cons_self)
  have hl := lv_entry ([.ref h, .int (x), .ref ou]) (n := 4) (Nat.le_of_ble_eq_true rfl)
  rw [lg_entry_eq]
  generalize (lg_sl ([.ref h, .int (x), .ref ou]) ++ List.replicate (4 - (lg_sl ([.ref h, .int (x), .ref ou])).length) Slot.unset).toArray = ls at hl ⊢
  have hl : lv_has ls 4 [(0, .ref h), (1, .int (x)), (2, .ref ou)] := hl
  refine lv_aload_n hx hb d_LW_parameter_0 rfl (lv_at hl 2 rfl) ?_
  refine lv_iconst (v := nI (0)) hx hb d_LW_parameter_1 (by decide) ?_
  refine lv_aload_n hx hb d_LW_parameter_2 rfl (lv_at hl 0 rfl) ?_
  refine lv_iload_n hx hb d_LW_parameter_3 rfl (lv_at hl 1 rfl) ?_
  refine fm_tv S (x_FM_parameterN l hl0 dC dI h bf li ra rl o sp wa sa la s0 cI B w st ln x (hF) (hno)) rfl rfl k_FM_parameter q_3_0 ⟨Nat.le_of_ble_eq_true rfl, Nat.le_of_ble_eq_true rfl⟩ (hP.sub [0, 1, 2, 3, 4] rfl) (hK.sub [0] rfl) hTh 0 rfl rfl rfl hl.1 rfl (Nat.le_of_ble_eq_true rfl) ⟨Nat.le_of_ble_eq_true rfl, Nat.le_of_ble_eq_true rfl⟩ d_LW_parameter_4 (fun q9 ce H1 h1 h2 h3 h4 h5 => ?_)
  refine vx_catch (name := fm_IO) (E := fm_IO) hown [⟨0, 9, 12, 18⟩] ⟨0, 9, 15, 20⟩ [] htab (fun z hz => by cases List.mem_singleton.mp hz; exact Or.inr ⟨by decide, fm_IS, ht _ q_2_146, hNc⟩) (by decide) (by decide) (ht _ q_2_147) (va_Nw.use rfl (hTh.1 (.castable fm_IO fm_IO) (List.mem_of_getElem? (i := 2) rfl))) h3 h4 h5 ?_
  refine lv_astore_n (lv' := [(3, .ref q9), (0, .ref h), (1, .int (x)), (2, .ref ou)]) hx hb d_LW_parameter_15 rfl hl (by decide) rfl (fun ls hl => ?_)
  refine lv_iconst (v := nI (2)) hx hb d_LW_parameter_16 (by decide) ?_
  exact W.iret hx hb hr (fun t ht hW => ⟨rfl, by rw [ht]; exact h1, fun q hq _ => by rw [ht]; exact h2 q hq⟩) (fun q hq => by cases hq) d_LW_parameter_17
set_option maxHeartbeats 4000000 in
set_option maxRecDepth 100000 in
theorem x_LW_askN1 (l : Launch) (hl0 : l.stackTraces = false) (dC : Nat → ClassId) (dI : Nat → Nat → Nat) (h : Nat) (bf : Nat) (li : Nat) (ra : Nat) (rl : Int32) (o : Nat) (sp : Nat) (wa : Nat) (sa : Nat) (la : Nat) (s0 : Nat) (cI : ClassId) (B : Nat → Nat) (w : Nat → Int32) (st : Nat → Int32) (ln : Nat → Int32) (x : Int32) (y : Int32) (ou : Nat) (hF : fm_FO B w st ln) (hne : x ≠ nI 256) (hno : fm_thI B x = false) : fm_MC l (dC, dI) y_LW_ask w_LW_ask ({ frames := 9, cells := 1, slots := 6, locals := 146 }) [.ref h, .int (x), .int (y), .ref ou] [(h, .inr (3, [.ref bf, .ref li, .ref ra, .int (rl), .ref o, .ref sp, .int (nI (1))])), (o, .inr (1, [.ref wa, .ref sa, .ref la, .int (nI (fm_HF B 2)), .int (nI (fm_HF B 3)), .int (nI (s0)), .int (nI (fm_z s0)), .int (nI (fm_h s0))])), (wa, .inl (cI, 2048, .inl (w))), (sa, .inl (cI, 10, .inl (st))), (la, .inl (cI, 10, .inl (ln)))] [(cI, .int)] (nI 2) := by
  refine va_MetW (cc := b_LW_ask) (maxL := 5) (ret := (some .int)) (by decide) rfl ?_
  intro pg ev s m args below meth cd s₁ BD hml hv
  obtain ⟨rfl, hP, hK, hTh, hNc⟩ := hv
  have hx := BD.exec
  have hb := BD.bytes
  have hr := BD.returns
  have hts := atoms_spec (ws := w_LW_ask) BD.pre
  have ht : ∀ w ∈ fm_T, w.before _ s = true := fun w h => hts w (List.mem_cons_of_mem _ h)
  have hown : s.vm.findClass R_LW = some m.cls := findClass_of_methodNamed BD.named
  have hlocks := BD.notSynchronized
  have S : CallFix pg m cd b_LW_ask 5 s _ w_LW_ask R_LW := ⟨hx, hb, hml, hown, hts⟩
  have htab := vx_table (x := y_LW_ask) BD (hts (.codeWith y_LW_ask b_LW_ask 5 (some .int) [(0, 10, 13, 18), (0, 10, 17, 20)]) List.mem_cons_self)
  have hl := lv_entry ([.ref h, .int (x), .int (y), .ref ou]) (n := 5) (Nat.le_of_ble_eq_true rfl)
  rw [lg_entry_eq]
  generalize (lg_sl ([.ref h, .int (x), .int (y), .ref ou]) ++ List.replicate (5 - (lg_sl ([.ref h, .int (x), .int (y), .ref ou])).length) Slot.unset).toArray = ls at hl ⊢
  have hl : lv_has ls 5 [(0, .ref h), (1, .int (x)), (2, .int (y)), (3, .ref ou)] := hl
  refine lv_aload_n hx hb d_LW_ask_0 rfl (lv_at hl 3 rfl) ?_
  refine lv_iconst (v := nI (0)) hx hb d_LW_ask_1 (by decide) ?_
  refine lv_aload_n hx hb d_LW_ask_2 rfl (lv_at hl 0 rfl) ?_
  refine lv_iload_n hx hb d_LW_ask_3 rfl (lv_at hl 1 rfl) ?_
  refine lv_iload_n hx hb d_LW_ask_4 rfl (lv_at hl 2 rfl) ?_
  refine fm_tv S (x_FM_askN1 l hl0 dC dI h bf li ra rl o sp wa sa la s0 cI B w st ln x y (hF) (hne) (hno)) rfl rfl k_FM_ask q_3_9 ⟨Nat.le_of_ble_eq_true rfl, Nat.le_of_ble_eq_true rfl⟩ (hP.sub [0, 1, 2, 3, 4] rfl) (hK.sub [0] rfl) hTh 0 rfl rfl rfl hl.1 rfl (Nat.le_of_ble_eq_true rfl) ⟨Nat.le_of_ble_eq_true rfl, Nat.le_of_ble_eq_true rfl⟩ d_LW_ask_5 (fun q9 ce H1 h1 h2 h3 h4 h5 => ?_)
  refine vx_catch (name := fm_IO) (E := fm_IO) hown [⟨0, 10, 13, 18⟩] ⟨0, 10, 17, 20⟩ [] htab (fun z hz => by cases List.mem_singleton.mp hz; exact Or.inr ⟨by decide, fm_IS, ht _ q_2_146, hNc⟩) (by decide) (by decide) (ht _ q_2_147) (va_Nw.use rfl (hTh.1 (.castable fm_IO fm_IO) (List.mem_of_getElem? (i := 2) rfl))) h3 h4 h5 ?_
  refine lv_astore (lv' := [(4, .ref q9), (0, .ref h), (1, .int (x)), (2, .int (y)), (3, .ref ou)]) hx hb d_LW_ask_17 hl (by decide) rfl (fun ls hl => ?_)
  refine lv_iconst (v := nI (2)) hx hb d_LW_ask_19 (by decide) ?_
  exact W.iret hx hb hr (fun t ht hW => ⟨rfl, by rw [ht]; exact h1, fun q hq _ => by rw [ht]; exact h2 q hq⟩) (fun q hq => by cases hq) d_LW_ask_20
set_option maxHeartbeats 4000000 in
set_option maxRecDepth 100000 in
theorem x_LW_askN2 (l : Launch) (hl0 : l.stackTraces = false) (dC : Nat → ClassId) (dI : Nat → Nat → Nat) (h : Nat) (bf : Nat) (li : Nat) (ra : Nat) (rl : Int32) (o : Nat) (sp : Nat) (wa : Nat) (sa : Nat) (la : Nat) (s0 : Nat) (cI : ClassId) (B : Nat → Nat) (w : Nat → Int32) (st : Nat → Int32) (ln : Nat → Int32) (c : Nat) (y : Int32) (ou : Nat) (hF : fm_FO B w st ln) (hxx : c = 256 ∨ fm_th B c = true) (hne : y ≠ nI 256) (hno : fm_thI B y = false) : fm_MC l (dC, dI) y_LW_ask w_LW_ask ({ frames := 9, cells := 1, slots := 6, locals := 146 }) [.ref h, .int (nI (c)), .int (y), .ref ou] [(h, .inr (3, [.ref bf, .ref li, .ref ra, .int (rl), .ref o, .ref sp, .int (nI (1))])), (o, .inr (1, [.ref wa, .ref sa, .ref la, .int (nI (fm_HF B 2)), .int (nI (fm_HF B 3)), .int (nI (s0)), .int (nI (fm_z s0)), .int (nI (fm_h s0))])), (wa, .inl (cI, 2048, .inl (w))), (sa, .inl (cI, 10, .inl (st))), (la, .inl (cI, 10, .inl (ln)))] [(cI, .int)] (nI 2) := by
  refine va_MetW (cc := b_LW_ask) (maxL := 5) (ret := (some .int)) (by decide) rfl ?_
  intro pg ev s m args below meth cd s₁ BD hml hv
  obtain ⟨rfl, hP, hK, hTh, hNc⟩ := hv
  have hx := BD.exec
  have hb := BD.bytes
  have hr := BD.returns
  have hts := atoms_spec (ws := w_LW_ask) BD.pre
  have ht : ∀ w ∈ fm_T, w.before _ s = true := fun w h => hts w (List.mem_cons_of_mem _ h)
  have hown : s.vm.findClass R_LW = some m.cls := findClass_of_methodNamed BD.named
  have hlocks := BD.notSynchronized
  have S : CallFix pg m cd b_LW_ask 5 s _ w_LW_ask R_LW := ⟨hx, hb, hml, hown, hts⟩
  have htab := vx_table (x := y_LW_ask) BD (hts (.codeWith y_LW_ask b_LW_ask 5 (some .int) [(0, 10, 13, 18), (0, 10, 17, 20)]) List.mem_cons_self)
  have hl := lv_entry ([.ref h, .int (nI (c)), .int (y), .ref ou]) (n := 5) (Nat.le_of_ble_eq_true rfl)
  rw [lg_entry_eq]
  generalize (lg_sl ([.ref h, .int (nI (c)), .int (y), .ref ou]) ++ List.replicate (5 - (lg_sl ([.ref h, .int (nI (c)), .int (y), .ref ou])).length) Slot.unset).toArray = ls at hl ⊢
  have hl : lv_has ls 5 [(0, .ref h), (1, .int (nI (c))), (2, .int (y)), (3, .ref ou)] := hl
  refine lv_aload_n hx hb d_LW_ask_0 rfl (lv_at hl 3 rfl) ?_
  refine lv_iconst (v := nI (0)) hx hb d_LW_ask_1 (by decide) ?_
  refine lv_aload_n hx hb d_LW_ask_2 rfl (lv_at hl 0 rfl) ?_
  refine lv_iload_n hx hb d_LW_ask_3 rfl (lv_at hl 1 rfl) ?_
  refine lv_iload_n hx hb d_LW_ask_4 rfl (lv_at hl 2 rfl) ?_
  refine fm_tv S (x_FM_askN2 l hl0 dC dI h bf li ra rl o sp wa sa la s0 cI B w st ln c y (hF) (hxx) (hne) (hno)) rfl rfl k_FM_ask q_3_9 ⟨Nat.le_of_ble_eq_true rfl, Nat.le_of_ble_eq_true rfl⟩ (hP.sub [0, 1, 2, 3, 4] rfl) (hK.sub [0] rfl) hTh 0 rfl rfl rfl hl.1 rfl (Nat.le_of_ble_eq_true rfl) ⟨Nat.le_of_ble_eq_true rfl, Nat.le_of_ble_eq_true rfl⟩ d_LW_ask_5 (fun q9 ce H1 h1 h2 h3 h4 h5 => ?_)
  refine vx_catch (name := fm_IO) (E := fm_IO) hown [⟨0, 10, 13, 18⟩] ⟨0, 10, 17, 20⟩ [] htab (fun z hz => by cases List.mem_singleton.mp hz; exact Or.inr ⟨by decide, fm_IS, ht _ q_2_146, hNc⟩) (by decide) (by decide) (ht _ q_2_147) (va_Nw.use rfl (hTh.1 (.castable fm_IO fm_IO) (List.mem_of_getElem? (i := 2) rfl))) h3 h4 h5 ?_
  refine lv_astore (lv' := [(4, .ref q9), (0, .ref h), (1, .int (nI (c))), (2, .int (y)), (3, .ref ou)]) hx hb d_LW_ask_17 hl (by decide) rfl (fun ls hl => ?_)
  refine lv_iconst (v := nI (2)) hx hb d_LW_ask_19 (by decide) ?_
  exact W.iret hx hb hr (fun t ht hW => ⟨rfl, by rw [ht]; exact h1, fun q hq _ => by rw [ht]; exact h2 q hq⟩) (fun q hq => by cases hq) d_LW_ask_20
set_option maxHeartbeats 4000000 in
set_option maxRecDepth 100000 in
theorem x_LW_loadX (l : Launch) (hl0 : l.stackTraces = false) (dC : Nat → ClassId) (dI : Nat → Nat → Nat) (h : Nat) (bf : Nat) (li : Nat) (ra : Nat) (rl : Int32) (o : Nat) (sp : Nat) (ld : Int32) (x : Int32) (ou : Nat) (hno : x < 0 ∨ nI 134217727 < x) : fm_MC l (dC, dI) y_LW_load w_LW_load ({ frames := 7, cells := 1, slots := 6, locals := 105 }) [.ref h, .int (x), .ref ou] [(h, .inr (3, [.ref bf, .ref li, .ref ra, .int (rl), .ref o, .ref sp, .int (ld)]))] [] (nI 1) := by
  refine va_MetW (cc := b_LW_load) (maxL := 4) (ret := (some .int)) (by decide) rfl ?_
  intro pg ev s m args below meth cd s₁ BD hml hv
  obtain ⟨rfl, hP, hK, hTh, hNc⟩ := hv
  have hx := BD.exec
  have hb := BD.bytes
  have hr := BD.returns
  have hts := atoms_spec (ws := w_LW_load) BD.pre
  have ht : ∀ w ∈ fm_T, w.before _ s = true := fun w h => hts w (List.mem_cons_of_mem _ h)
  have hown : s.vm.findClass R_LW = some m.cls := findClass_of_methodNamed BD.named
  have hlocks := BD.notSynchronized
  have S : CallFix pg m cd b_LW_load 4 s _ w_LW_load R_LW := ⟨hx, hb, hml, hown, hts⟩
  have htab := vx_table (x := y_LW_load) BD (hts (.codeWith y_LW_load b_LW_load 4 (some .int) [(0, 9, 12, 13)]) List.mem_cons_self)
  have hl := lv_entry ([.ref h, .int (x), .ref ou]) (n := 4) (Nat.le_of_ble_eq_true rfl)
  rw [lg_entry_eq]
  generalize (lg_sl ([.ref h, .int (x), .ref ou]) ++ List.replicate (4 - (lg_sl ([.ref h, .int (x), .ref ou])).length) Slot.unset).toArray = ls at hl ⊢
  have hl : lv_has ls 4 [(0, .ref h), (1, .int (x)), (2, .ref ou)] := hl
  refine lv_aload_n hx hb d_LW_load_0 rfl (lv_at hl 2 rfl) ?_
  refine lv_iconst (v := nI (0)) hx hb d_LW_load_1 (by decide) ?_
  refine lv_aload_n hx hb d_LW_load_2 rfl (lv_at hl 0 rfl) ?_
  refine lv_iload_n hx hb d_LW_load_3 rfl (lv_at hl 1 rfl) ?_
  refine fm_tv S (x_FM_load l hl0 dC dI h bf li ra rl o sp ld x (hno)) rfl rfl k_FM_load q_1_196 ⟨Nat.le_of_ble_eq_true rfl, Nat.le_of_ble_eq_true rfl⟩ (hP.sub [0] rfl) (hK.sub [] rfl) hTh 0 rfl rfl rfl hl.1 rfl (Nat.le_of_ble_eq_true rfl) ⟨Nat.le_of_ble_eq_true rfl, Nat.le_of_ble_eq_true rfl⟩ d_LW_load_4 (fun q9 ce H1 h1 h2 h3 h4 h5 => ?_)
  refine vx_catch (name := fm_IA) (E := fm_IA) hown [] ⟨0, 9, 12, 13⟩ [] htab (fun z hz => nomatch hz) (by decide) (by decide) (ht _ q_1_195) (va_Nw.use rfl (hTh.1 (.castable fm_IA fm_IA) (List.mem_of_getElem? (i := 0) rfl))) h3 h4 h5 ?_
  refine lv_astore_n (lv' := [(3, .ref q9), (0, .ref h), (1, .int (x)), (2, .ref ou)]) hx hb d_LW_load_12 rfl hl (by decide) rfl (fun ls hl => ?_)
  refine lv_iconst (v := nI (1)) hx hb d_LW_load_13 (by decide) ?_
  exact W.iret hx hb hr (fun t ht hW => ⟨rfl, by rw [ht]; exact h1, fun q hq _ => by rw [ht]; exact h2 q hq⟩) (fun q hq => by cases hq) d_LW_load_14
set_option maxHeartbeats 4000000 in
set_option maxRecDepth 100000 in
theorem x_LW_isKernN (l : Launch) (hl0 : l.stackTraces = false) (dC : Nat → ClassId) (dI : Nat → Nat → Nat) (h : Nat) (bf : Nat) (li : Nat) (ra : Nat) (rl : Int32) (o : Nat) (sp : Nat) (ld : Int32) (pa : Nat) (va : Nat) (na : Nat) (le : Int32) (cn : Nat) (x : Int32) (ou : Nat) (hno : x < 0 ∨ nI cn ≤ x) : fm_MC l (dC, dI) y_LW_isKern w_LW_isKern ({ frames := 8, cells := 1, slots := 6, locals := 124 }) [.ref h, .int (x), .ref ou] [(h, .inr (3, [.ref bf, .ref li, .ref ra, .int (rl), .ref o, .ref sp, .int (ld)])), (li, .inr (2, [.ref pa, .ref va, .ref na, .int (le), .int (nI (cn))]))] [] (nI 1) := by
  refine va_MetW (cc := b_LW_isKern) (maxL := 4) (ret := (some .int)) (by decide) rfl ?_
  intro pg ev s m args below meth cd s₁ BD hml hv
  obtain ⟨rfl, hP, hK, hTh, hNc⟩ := hv
  have hx := BD.exec
  have hb := BD.bytes
  have hr := BD.returns
  have hts := atoms_spec (ws := w_LW_isKern) BD.pre
  have ht : ∀ w ∈ fm_T, w.before _ s = true := fun w h => hts w (List.mem_cons_of_mem _ h)
  have hown : s.vm.findClass R_LW = some m.cls := findClass_of_methodNamed BD.named
  have hlocks := BD.notSynchronized
  have S : CallFix pg m cd b_LW_isKern 4 s _ w_LW_isKern R_LW := ⟨hx, hb, hml, hown, hts⟩
  have htab := vx_table (x := y_LW_isKern) BD (hts (.codeWith y_LW_isKern b_LW_isKern 4 (some .int) [(0, 16, 19, 20)]) List.mem_cons_self)
  have hl := lv_entry ([.ref h, .int (x), .ref ou]) (n := 4) (Nat.le_of_ble_eq_true rfl)
  rw [lg_entry_eq]
  generalize (lg_sl ([.ref h, .int (x), .ref ou]) ++ List.replicate (4 - (lg_sl ([.ref h, .int (x), .ref ou])).length) Slot.unset).toArray = ls at hl ⊢
  have hl : lv_has ls 4 [(0, .ref h), (1, .int (x)), (2, .ref ou)] := hl
  refine lv_aload_n hx hb d_LW_isKern_0 rfl (lv_at hl 2 rfl) ?_
  refine lv_iconst (v := nI (0)) hx hb d_LW_isKern_1 (by decide) ?_
  refine lv_aload_n hx hb d_LW_isKern_2 rfl (lv_at hl 0 rfl) ?_
  refine lv_iload_n hx hb d_LW_isKern_3 rfl (lv_at hl 1 rfl) ?_
  refine fm_tv S (x_FM_isKern l hl0 dC dI h bf li ra rl o sp ld pa va na le cn x (hno)) rfl rfl k_FM_isKern q_3_89 ⟨Nat.le_of_ble_eq_true rfl, Nat.le_of_ble_eq_true rfl⟩ (hP.sub [0, 1] rfl) (hK.sub [] rfl) hTh 0 rfl rfl rfl hl.1 rfl (Nat.le_of_ble_eq_true rfl) ⟨Nat.le_of_ble_eq_true rfl, Nat.le_of_ble_eq_true rfl⟩ d_LW_isKern_4 (fun q9 ce H1 h1 h2 h3 h4 h5 => ?_)
  refine vx_catch (name := fm_IO) (E := fm_IO) hown [] ⟨0, 16, 19, 20⟩ [] htab (fun z hz => nomatch hz) (by decide) (by decide) (ht _ q_2_147) (va_Nw.use rfl (hTh.1 (.castable fm_IO fm_IO) (List.mem_of_getElem? (i := 2) rfl))) h3 h4 h5 ?_
  refine lv_astore_n (lv' := [(3, .ref q9), (0, .ref h), (1, .int (x)), (2, .ref ou)]) hx hb d_LW_isKern_19 rfl hl (by decide) rfl (fun ls hl => ?_)
  refine lv_iconst (v := nI (1)) hx hb d_LW_isKern_20 (by decide) ?_
  exact W.iret hx hb hr (fun t ht hW => ⟨rfl, by rw [ht]; exact h1, fun q hq _ => by rw [ht]; exact h2 q hq⟩) (fun q hq => by cases hq) d_LW_isKern_21
set_option maxHeartbeats 4000000 in
set_option maxRecDepth 100000 in
theorem x_LW_itemN (l : Launch) (hl0 : l.stackTraces = false) (dC : Nat → ClassId) (dI : Nat → Nat → Nat) (h : Nat) (bf : Nat) (li : Nat) (ra : Nat) (rl : Int32) (o : Nat) (sp : Nat) (ld : Int32) (pa : Nat) (va : Nat) (na : Nat) (le : Int32) (cn : Nat) (x : Int32) (ou : Nat) (hno : x < 0 ∨ nI cn ≤ x) : fm_MC l (dC, dI) y_LW_item w_LW_item ({ frames := 8, cells := 1, slots := 6, locals := 124 }) [.ref h, .int (x), .ref ou] [(h, .inr (3, [.ref bf, .ref li, .ref ra, .int (rl), .ref o, .ref sp, .int (ld)])), (li, .inr (2, [.ref pa, .ref va, .ref na, .int (le), .int (nI (cn))]))] [] (nI 1) := by
  refine va_MetW (cc := b_LW_item) (maxL := 4) (ret := (some .int)) (by decide) rfl ?_
  intro pg ev s m args below meth cd s₁ BD hml hv
  obtain ⟨rfl, hP, hK, hTh, hNc⟩ := hv
  have hx := BD.exec
  have hb := BD.bytes
  have hr := BD.returns
  have hts := atoms_spec (ws := w_LW_item) BD.pre
  have ht : ∀ w ∈ fm_T, w.before _ s = true := fun w h => hts w (List.mem_cons_of_mem _ h)
  have hown : s.vm.findClass R_LW = some m.cls := findClass_of_methodNamed BD.named
  have hlocks := BD.notSynchronized
  have S : CallFix pg m cd b_LW_item 4 s _ w_LW_item R_LW := ⟨hx, hb, hml, hown, hts⟩
  have htab := vx_table (x := y_LW_item) BD (hts (.codeWith y_LW_item b_LW_item 4 (some .int) [(0, 9, 12, 20)]) List.mem_cons_self)
  have hl := lv_entry ([.ref h, .int (x), .ref ou]) (n := 4) (Nat.le_of_ble_eq_true rfl)
  rw [lg_entry_eq]
  generalize (lg_sl ([.ref h, .int (x), .ref ou]) ++ List.replicate (4 - (lg_sl ([.ref h, .int (x), .ref ou])).length) Slot.unset).toArray = ls at hl ⊢
  have hl : lv_has ls 4 [(0, .ref h), (1, .int (x)), (2, .ref ou)] := hl
  refine lv_aload_n hx hb d_LW_item_0 rfl (lv_at hl 2 rfl) ?_
  refine lv_iconst (v := nI (0)) hx hb d_LW_item_1 (by decide) ?_
  refine lv_aload_n hx hb d_LW_item_2 rfl (lv_at hl 0 rfl) ?_
  refine lv_iload_n hx hb d_LW_item_3 rfl (lv_at hl 1 rfl) ?_
  refine fm_tv S (x_FM_item l hl0 dC dI h bf li ra rl o sp ld pa va na le cn x (hno)) rfl rfl k_FM_item q_3_102 ⟨Nat.le_of_ble_eq_true rfl, Nat.le_of_ble_eq_true rfl⟩ (hP.sub [0, 1] rfl) (hK.sub [] rfl) hTh 0 rfl rfl rfl hl.1 rfl (Nat.le_of_ble_eq_true rfl) ⟨Nat.le_of_ble_eq_true rfl, Nat.le_of_ble_eq_true rfl⟩ d_LW_item_4 (fun q9 ce H1 h1 h2 h3 h4 h5 => ?_)
  refine vx_catch (name := fm_IO) (E := fm_IO) hown [] ⟨0, 9, 12, 20⟩ [] htab (fun z hz => nomatch hz) (by decide) (by decide) (ht _ q_2_147) (va_Nw.use rfl (hTh.1 (.castable fm_IO fm_IO) (List.mem_of_getElem? (i := 2) rfl))) h3 h4 h5 ?_
  refine lv_astore_n (lv' := [(3, .ref q9), (0, .ref h), (1, .int (x)), (2, .ref ou)]) hx hb d_LW_item_12 rfl hl (by decide) rfl (fun ls hl => ?_)
  refine lv_iconst (v := nI (1)) hx hb d_LW_item_13 (by decide) ?_
  exact W.iret hx hb hr (fun t ht hW => ⟨rfl, by rw [ht]; exact h1, fun q hq _ => by rw [ht]; exact h2 q hq⟩) (fun q hq => by cases hq) d_LW_item_14
