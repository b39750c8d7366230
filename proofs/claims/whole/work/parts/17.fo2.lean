theorem d_FO_scaled_0 : decode b_FO_scaled 0 = .ok (.iload_n 1, 1) := by decide +kernel
theorem d_FO_scaled_1 : decode b_FO_scaled 1 = .ok (.ldc 63, 2) := by decide +kernel
theorem d_FO_scaled_3 : decode b_FO_scaled 3 = .ok (.iand, 1) := by decide +kernel
theorem d_FO_scaled_4 : decode b_FO_scaled 4 = .ok (.i2l, 1) := by decide +kernel
theorem d_FO_scaled_5 : decode b_FO_scaled 5 = .ok (.aload_n 0, 1) := by decide +kernel
theorem d_FO_scaled_6 : decode b_FO_scaled 6 = .ok (.getfield 52, 3) := by decide +kernel
theorem d_FO_scaled_9 : decode b_FO_scaled 9 = .ok (.i2l, 1) := by decide +kernel
theorem d_FO_scaled_10 : decode b_FO_scaled 10 = .ok (.lmul, 1) := by decide +kernel
theorem d_FO_scaled_11 : decode b_FO_scaled 11 = .ok (.lstore_n 2, 1) := by decide +kernel
theorem d_FO_scaled_12 : decode b_FO_scaled 12 = .ok (.lload_n 2, 1) := by decide +kernel
theorem d_FO_scaled_13 : decode b_FO_scaled 13 = .ok (.bipush 20, 2) := by decide +kernel
theorem d_FO_scaled_15 : decode b_FO_scaled 15 = .ok (.aload_n 0, 1) := by decide +kernel
theorem d_FO_scaled_16 : decode b_FO_scaled 16 = .ok (.getfield 55, 3) := by decide +kernel
theorem d_FO_scaled_19 : decode b_FO_scaled 19 = .ok (.isub, 1) := by decide +kernel
theorem d_FO_scaled_20 : decode b_FO_scaled 20 = .ok (.lshr, 1) := by decide +kernel
theorem d_FO_scaled_21 : decode b_FO_scaled 21 = .ok (.lstore 4, 2) := by decide +kernel
theorem d_FO_scaled_23 : decode b_FO_scaled 23 = .ok (.iload_n 1, 1) := by decide +kernel
theorem d_FO_scaled_24 : decode b_FO_scaled 24 = .ok (.iconst 0, 1) := by decide +kernel
theorem d_FO_scaled_25 : decode b_FO_scaled 25 = .ok (.invokestatic 64, 3) := by decide +kernel
theorem d_FO_scaled_28 : decode b_FO_scaled 28 = .ok (.sipush 255, 3) := by decide +kernel
theorem d_FO_scaled_31 : decode b_FO_scaled 31 = .ok (.if_icmp .ne 20, 3) := by decide +kernel
theorem d_FO_scaled_34 : decode b_FO_scaled 34 = .ok (.lload 4, 2) := by decide +kernel
theorem d_FO_scaled_36 : decode b_FO_scaled 36 = .ok (.aload_n 0, 1) := by decide +kernel
theorem d_FO_scaled_37 : decode b_FO_scaled 37 = .ok (.getfield 52, 3) := by decide +kernel
theorem d_FO_scaled_40 : decode b_FO_scaled 40 = .ok (.i2l, 1) := by decide +kernel
theorem d_FO_scaled_41 : decode b_FO_scaled 41 = .ok (.iconst 4, 1) := by decide +kernel
theorem d_FO_scaled_42 : decode b_FO_scaled 42 = .ok (.aload_n 0, 1) := by decide +kernel
theorem d_FO_scaled_43 : decode b_FO_scaled 43 = .ok (.getfield 55, 3) := by decide +kernel
theorem d_FO_scaled_46 : decode b_FO_scaled 46 = .ok (.iadd, 1) := by decide +kernel
theorem d_FO_scaled_47 : decode b_FO_scaled 47 = .ok (.lshl, 1) := by decide +kernel
theorem d_FO_scaled_48 : decode b_FO_scaled 48 = .ok (.lsub, 1) := by decide +kernel
theorem d_FO_scaled_49 : decode b_FO_scaled 49 = .ok (.lstore 4, 2) := by decide +kernel
theorem d_FO_scaled_51 : decode b_FO_scaled 51 = .ok (.lload 4, 2) := by decide +kernel
theorem d_FO_scaled_53 : decode b_FO_scaled 53 = .ok (.l2i, 1) := by decide +kernel
theorem d_FO_scaled_54 : decode b_FO_scaled 54 = .ok (.ireturn, 1) := by decide +kernel
set_option maxHeartbeats 4000000 in
set_option maxRecDepth 100000 in
theorem c_FO_scaled (l : Launch) (dC : Nat → ClassId) (dI : Nat → Nat → Nat) (o : Nat) (wa : Nat) (sa : Nat) (la : Nat) (sz : Int32) (s0 : Nat) (cI : ClassId) (B : Nat → Nat) (w : Nat → Int32) (st : Nat → Int32) (ln : Nat → Int32) (p : Nat) (k : Nat) (hB : ∀ i, B i < 256) (hs : s0 < 134217728) : fm_M l (dC, dI) y_FO_scaled w_FO_scaled ({ frames := 1, cells := 0, slots := 0, locals := 21 }) [.ref o, .int (fm_W B p k)] [(o, .inr (1, [.ref wa, .ref sa, .ref la, .int (nI (fm_HF B 2)), .int (nI (fm_HF B 3)), .int (sz), .int (nI (fm_z s0)), .int (nI (fm_h s0))])), (wa, .inl (cI, 2048, .inl (w))), (sa, .inl (cI, 10, .inl (st))), (la, .inl (cI, 10, .inl (ln)))] [(cI, .int)] ((fm_sc B s0 p k)) := by
  refine Met.ofW (cc := b_FO_scaled) (maxL := 6) (ret := (some .int)) (by decide) rfl ?_
  intro pg ev s m args below meth cd s₁ BD hml hv
  obtain ⟨rfl, hP, hK⟩ := hv
  have hx := BD.exec
  have hb := BD.bytes
  have hr := BD.returns
  have hts := atoms_spec (ws := w_FO_scaled) BD.pre
  have ht : ∀ w ∈ fm_T, w.before _ s = true := fun w h => hts w (List.mem_cons_of_mem _ h)
  have hown : s.vm.findClass R_FO = some m.cls := findClass_of_methodNamed BD.named
  have hlocks := BD.notSynchronized
  have S : CallFix pg m cd b_FO_scaled 6 s _ w_FO_scaled R_FO := ⟨hx, hb, hml, hown, hts⟩
  have hl := lv_entry ([.ref o, .int (fm_W B p k)]) (n := 6) (Nat.le_of_ble_eq_true rfl)
  rw [lg_entry_eq]
  generalize (lg_sl ([.ref o, .int (fm_W B p k)]) ++ List.replicate (6 - (lg_sl ([.ref o, .int (fm_W B p k)])).length) Slot.unset).toArray = ls at hl ⊢
  have hl : lv_has ls 6 [(0, .ref o), (1, .int (fm_W B p k))] := hl
  have hh4 := fm_h_le s0
  have hnum := fm_num_lt hB p k
  have hzz : fm_z s0 < 134217728 := Nat.lt_of_le_of_lt (Nat.div_le_self _ _) hs
  refine lv_iload_n hx hb d_FO_scaled_0 rfl (lv_at hl 1 rfl) ?_
  refine lv_ldc (own := R_FO) (v := nI (16777215)) hx hb hown (ht _ q_1_188) d_FO_scaled_1 ?_
  refine lv_iand hx hb d_FO_scaled_3 ?_
  refine fm_tw (z := nI (fm_num B p k)) (fm_numW hB p k) ?_
  refine lv_i2l (v := lN (fm_num B p k)) hx hb d_FO_scaled_4 (nI_l (by omega)) ?_
  refine lv_aload_n hx hb d_FO_scaled_5 rfl (lv_at hl 0 rfl) ?_
  refine va_get (D := (dC, dI)) (ci := 1) (v := .int (nI (fm_z s0))) (C := R_FO) (T := F_FO) (N := 8) hx hb ht i_FO hown hK hP 0 rfl rfl 6 (by decide) (ht _ q_1_80) (fun _ h9 => h9) rfl d_FO_scaled_6 ?_
  refine lv_i2l (v := lN (fm_z s0)) hx hb d_FO_scaled_9 (nI_l (by omega)) ?_
  refine lv_lmul hx hb d_FO_scaled_10 ?_
  refine fm_twl (z := lN (((fm_num B p k)) * ((fm_z s0)))) (lN_mul _ _) ?_
  refine lv_lstore_n (lv' := [(2, .long (lN (((fm_num B p k)) * ((fm_z s0))))), (0, .ref o), (1, .int (fm_W B p k))]) hx hb d_FO_scaled_11 rfl hl (by decide) rfl (fun ls hl => ?_)
  refine lv_lload_n hx hb d_FO_scaled_12 rfl (lv_at hl 0 rfl) ?_
  refine lv_bipush (v := nI (20)) hx hb d_FO_scaled_13 (by decide) ?_
  refine lv_aload_n hx hb d_FO_scaled_15 rfl (lv_at hl 1 rfl) ?_
  refine va_get (D := (dC, dI)) (ci := 1) (v := .int (nI (fm_h s0))) (C := R_FO) (T := F_FO) (N := 8) hx hb ht i_FO hown hK hP 0 rfl rfl 7 (by decide) (ht _ q_1_81) (fun _ h9 => h9) rfl d_FO_scaled_16 ?_
  refine lv_isub hx hb d_FO_scaled_19 ?_
  refine fm_tw (z := nI (20 - (fm_h s0))) (pk_sub (by omega)) ?_
  refine lv_lshr hx hb d_FO_scaled_20 rfl ?_
  refine lv_lstore (lv' := [(4, .long ((lN (((fm_num B p k)) * ((fm_z s0)))) >>> ((nI (20 - (fm_h s0))).toInt64 &&& 63))), (2, .long (lN (((fm_num B p k)) * ((fm_z s0))))), (0, .ref o), (1, .int (fm_W B p k))]) hx hb d_FO_scaled_21 hl (by decide) rfl (fun ls hl => ?_)
  refine lv_iload_n hx hb d_FO_scaled_23 rfl (lv_at hl 3 rfl) ?_
  refine lv_iconst (v := nI (0)) hx hb d_FO_scaled_24 (by decide) ?_
  refine fm_cs S (c_FO_byteOf l dC dI (fm_W B p k) 0 (by omega)) rfl rfl k_FO_byteOf q_1_189 ⟨Nat.le_of_ble_eq_true rfl, Nat.le_of_ble_eq_true rfl⟩ (hP.sub [] rfl) (hK.sub [] rfl) rfl hl.1 rfl (Nat.le_of_ble_eq_true rfl) ⟨Nat.zero_le _, Nat.zero_le _⟩ d_FO_scaled_25 ?_
  refine fm_tw (z := nI (fm_AT B p k 0)) (by simp only [fm_by_W hB _ _ (show 0 < 4 by decide), fm_by_W hB _ _ (show 1 < 4 by decide), fm_by_W hB _ _ (show 2 < 4 by decide), fm_by_W hB _ _ (show 3 < 4 by decide)]) ?_
  have f0_25 := fm_AT_lt hB p k 0
  refine lv_sipush (v := nI (255)) hx hb d_FO_scaled_28 (by decide) ?_
  refine lv_icmp_ne (tgt := 51) hx hb d_FO_scaled_31 (by decide) (fun c0 => ?_) (fun c0 => ?_)
  · have c_31 : ¬ (fm_AT B p k 0 = 255) := fun z => c0 ((nI_eq (a := fm_AT B p k 0) (b := 255) (by omega) (by omega)).mpr z)
    refine lv_lload hx hb d_FO_scaled_51 (lv_at hl 0 rfl) ?_
    refine lv_l2i hx hb d_FO_scaled_53 rfl ?_
    exact W.iret hx hb hr (fun t ht hW => ⟨_, rfl, by first | (rw [fm_sc, if_pos c_31]; done) | (rw [fm_sc, if_neg c_31]; done), ht⟩) (fun q hq => by cases hq) d_FO_scaled_54
  · have c_31 : fm_AT B p k 0 = 255 := (nI_eq (a := fm_AT B p k 0) (b := 255) (by omega) (by omega)).mp c0
    refine lv_lload hx hb d_FO_scaled_34 (lv_at hl 0 rfl) ?_
    refine lv_aload_n hx hb d_FO_scaled_36 rfl (lv_at hl 2 rfl) ?_
    refine va_get (D := (dC, dI)) (ci := 1) (v := .int (nI (fm_z s0))) (C := R_FO) (T := F_FO) (N := 8) hx hb ht i_FO hown hK hP 0 rfl rfl 6 (by decide) (ht _ q_1_80) (fun _ h9 => h9) rfl d_FO_scaled_37 ?_
    refine lv_i2l (v := lN (fm_z s0)) hx hb d_FO_scaled_40 (nI_l (by omega)) ?_
    refine lv_iconst (v := nI (4)) hx hb d_FO_scaled_41 (by decide) ?_
    refine lv_aload_n hx hb d_FO_scaled_42 rfl (lv_at hl 2 rfl) ?_
    refine va_get (D := (dC, dI)) (ci := 1) (v := .int (nI (fm_h s0))) (C := R_FO) (T := F_FO) (N := 8) hx hb ht i_FO hown hK hP 0 rfl rfl 7 (by decide) (ht _ q_1_81) (fun _ h9 => h9) rfl d_FO_scaled_43 ?_
    refine lv_iadd hx hb d_FO_scaled_46 ?_
    refine fm_tw (z := nI (4 + fm_h s0)) (nI_add _ _) ?_
    refine lv_lshl hx hb d_FO_scaled_47 rfl ?_
    refine lv_lsub hx hb d_FO_scaled_48 ?_
    refine lv_lstore (lv' := [(4, .long (((lN (((fm_num B p k)) * ((fm_z s0)))) >>> ((nI (20 - (fm_h s0))).toInt64 &&& 63)) - ((lN (fm_z s0)) <<< ((nI (4 + fm_h s0)).toInt64 &&& 63)))), (2, .long (lN (((fm_num B p k)) * ((fm_z s0))))), (0, .ref o), (1, .int (fm_W B p k))]) hx hb d_FO_scaled_49 hl (by decide) rfl (fun ls hl => ?_)
    refine lv_lload hx hb d_FO_scaled_51 (lv_at hl 0 rfl) ?_
    refine lv_l2i hx hb d_FO_scaled_53 rfl ?_
    exact W.iret hx hb hr (fun t ht hW => ⟨_, rfl, by first | (rw [fm_sc, if_pos c_31]; done) | (rw [fm_sc, if_neg c_31]; done), ht⟩) (fun q hq => by cases hq) d_FO_scaled_54
theorem d_FO_character_0 : decode b_FO_character 0 = .ok (.iload_n 1, 1) := by decide +kernel
theorem d_FO_character_1 : decode b_FO_character 1 = .ok (.aload_n 0, 1) := by decide +kernel
theorem d_FO_character_2 : decode b_FO_character 2 = .ok (.getfield 39, 3) := by decide +kernel
theorem d_FO_character_5 : decode b_FO_character 5 = .ok (.if_icmp .lt 25, 3) := by decide +kernel
theorem d_FO_character_8 : decode b_FO_character 8 = .ok (.iload_n 1, 1) := by decide +kernel
theorem d_FO_character_9 : decode b_FO_character 9 = .ok (.aload_n 0, 1) := by decide +kernel
theorem d_FO_character_10 : decode b_FO_character 10 = .ok (.getfield 43, 3) := by decide +kernel
theorem d_FO_character_13 : decode b_FO_character 13 = .ok (.if_icmp .gt 17, 3) := by decide +kernel
theorem d_FO_character_16 : decode b_FO_character 16 = .ok (.aload_n 0, 1) := by decide +kernel
theorem d_FO_character_17 : decode b_FO_character 17 = .ok (.iconst 1, 1) := by decide +kernel
theorem d_FO_character_18 : decode b_FO_character 18 = .ok (.iload_n 1, 1) := by decide +kernel
theorem d_FO_character_19 : decode b_FO_character 19 = .ok (.aload_n 0, 1) := by decide +kernel
theorem d_FO_character_20 : decode b_FO_character 20 = .ok (.getfield 39, 3) := by decide +kernel
theorem d_FO_character_23 : decode b_FO_character 23 = .ok (.isub, 1) := by decide +kernel
theorem d_FO_character_24 : decode b_FO_character 24 = .ok (.invokevirtual 60, 3) := by decide +kernel
theorem d_FO_character_27 : decode b_FO_character 27 = .ok (.goto 4, 3) := by decide +kernel
theorem d_FO_character_30 : decode b_FO_character 30 = .ok (.iconst 0, 1) := by decide +kernel
theorem d_FO_character_31 : decode b_FO_character 31 = .ok (.ireturn, 1) := by decide +kernel
set_option maxHeartbeats 4000000 in
set_option maxRecDepth 100000 in
theorem c_FO_character (l : Launch) (dC : Nat → ClassId) (dI : Nat → Nat → Nat) (o : Nat) (wa : Nat) (sa : Nat) (la : Nat) (sz : Int32) (sc : Int32) (hv : Int32) (cI : ClassId) (B : Nat → Nat) (w : Nat → Int32) (st : Nat → Int32) (ln : Nat → Int32) (c : Int32) (hF : fm_FO B w st ln) : fm_M l (dC, dI) y_FO_character w_FO_character ({ frames := 1, cells := 0, slots := 0, locals := 23 }) [.ref o, .int (c)] [(o, .inr (1, [.ref wa, .ref sa, .ref la, .int (nI (fm_HF B 2)), .int (nI (fm_HF B 3)), .int (sz), .int (sc), .int (hv)])), (wa, .inl (cI, 2048, .inl (w))), (sa, .inl (cI, 10, .inl (st))), (la, .inl (cI, 10, .inl (ln)))] [(cI, .int)] ((fm_ch B c)) := by
  refine Met.ofW (cc := b_FO_character) (maxL := 2) (ret := (some .int)) (by decide) rfl ?_
  intro pg ev s m args below meth cd s₁ BD hml hv
  obtain ⟨rfl, hP, hK⟩ := hv
  have hx := BD.exec
  have hb := BD.bytes
  have hr := BD.returns
  have hts := atoms_spec (ws := w_FO_character) BD.pre
  have ht : ∀ w ∈ fm_T, w.before _ s = true := fun w h => hts w (List.mem_cons_of_mem _ h)
  have hown : s.vm.findClass R_FO = some m.cls := findClass_of_methodNamed BD.named
  have hlocks := BD.notSynchronized
  have S : CallFix pg m cd b_FO_character 2 s _ w_FO_character R_FO := ⟨hx, hb, hml, hown, hts⟩
  have hl := lv_entry ([.ref o, .int (c)]) (n := 2) (Nat.le_of_ble_eq_true rfl)
  rw [lg_entry_eq]
  generalize (lg_sl ([.ref o, .int (c)]) ++ List.replicate (2 - (lg_sl ([.ref o, .int (c)])).length) Slot.unset).toArray = ls at hl ⊢
  have hl : lv_has ls 2 [(0, .ref o), (1, .int (c))] := hl
  have hB : ∀ i, B i < 256 := hF.1.1
  obtain ⟨hL, hFw, hFs, hFl⟩ := id hF
  obtain ⟨-, hq, h3, h10⟩ := id hL
  have hb2 := fm_HF_lt hB 2
  refine lv_iload_n hx hb d_FO_character_0 rfl (lv_at hl 1 rfl) ?_
  refine lv_aload_n hx hb d_FO_character_1 rfl (lv_at hl 0 rfl) ?_
  refine va_get (D := (dC, dI)) (ci := 1) (v := .int (nI (fm_HF B 2))) (C := R_FO) (T := F_FO) (N := 8) hx hb ht i_FO hown hK hP 0 rfl rfl 3 (by decide) (ht _ q_1_73) (fun _ h9 => h9) rfl d_FO_character_2 ?_
  refine lv_icmp_lt (tgt := 30) hx hb d_FO_character_5 (by decide) (fun c0 => ?_) (fun c0 => ?_)
  · have c_5 := c0
    refine lv_iconst (v := nI (0)) hx hb d_FO_character_30 (by decide) ?_
    exact W.iret hx hb hr (fun t ht hW => ⟨_, rfl, by first | (rw [fm_ch, if_neg (fun z => z.1 c_5)]; done) | (rw [fm_ch, if_neg (fun z => z.2 c0)]; done), ht⟩) (fun q hq => by cases hq) d_FO_character_31
  · have c_5 := c0
    obtain ⟨n, hn, hcn, rfl⟩ := fm_ge (by omega) c_5
    refine lv_iload_n hx hb d_FO_character_8 rfl (lv_at hl 1 rfl) ?_
    refine lv_aload_n hx hb d_FO_character_9 rfl (lv_at hl 0 rfl) ?_
    refine va_get (D := (dC, dI)) (ci := 1) (v := .int (nI (fm_HF B 3))) (C := R_FO) (T := F_FO) (N := 8) hx hb ht i_FO hown hK hP 0 rfl rfl 4 (by decide) (ht _ q_1_76) (fun _ h9 => h9) rfl d_FO_character_10 ?_
    refine lv_icmp_gt (tgt := 30) hx hb d_FO_character_13 (by decide) (fun c0 => ?_) (fun c0 => ?_)
    · have c_13 : fm_HF B 3 < n := (nI_ltI (a := fm_HF B 3) (b := n) (by omega) (by omega)).mp c0
      refine lv_iconst (v := nI (0)) hx hb d_FO_character_30 (by decide) ?_
      exact W.iret hx hb hr (fun t ht hW => ⟨_, rfl, by first | (rw [fm_ch, if_neg (fun z => z.1 c_5)]; done) | (rw [fm_ch, if_neg (fun z => z.2 c0)]; done), ht⟩) (fun q hq => by cases hq) d_FO_character_31
    · have c_13 : ¬ (fm_HF B 3 < n) := fun z => c0 ((nI_ltI (a := fm_HF B 3) (b := n) (by omega) (by omega)).mpr z)
      refine lv_aload_n hx hb d_FO_character_16 rfl (lv_at hl 0 rfl) ?_
      refine lv_iconst (v := nI (1)) hx hb d_FO_character_17 (by decide) ?_
      refine lv_iload_n hx hb d_FO_character_18 rfl (lv_at hl 1 rfl) ?_
      refine lv_aload_n hx hb d_FO_character_19 rfl (lv_at hl 0 rfl) ?_
      refine va_get (D := (dC, dI)) (ci := 1) (v := .int (nI (fm_HF B 2))) (C := R_FO) (T := F_FO) (N := 8) hx hb ht i_FO hown hK hP 0 rfl rfl 3 (by decide) (ht _ q_1_73) (fun _ h9 => h9) rfl d_FO_character_20 ?_
      refine lv_isub hx hb d_FO_character_23 ?_
      refine fm_tw (z := nI (n - (fm_HF B 2))) (pk_sub (by omega)) ?_
      refine fm_cv S (c_FO_wordN l dC dI o wa sa la sz sc hv cI B w st ln 1 (n - (fm_HF B 2)) (hF) (by omega) (by rw [fm_WD1]; omega)) rfl rfl k_FO_word q_1_153 ⟨Nat.le_of_ble_eq_true rfl, Nat.le_of_ble_eq_true rfl⟩ (hP.sub [0, 1, 2, 3] rfl) (hK.sub [0] rfl) 0 rfl rfl rfl hl.1 rfl (Nat.le_of_ble_eq_true rfl) ⟨Nat.zero_le _, Nat.zero_le _⟩ d_FO_character_24 ?_
      refine lv_goto (tgt := 31) hx hb d_FO_character_27 (by decide) ?_
      exact W.iret hx hb hr (fun t ht hW => ⟨_, rfl, by rw [fm_ch_in hB hcn (by omega)], ht⟩) (fun q hq => by cases hq) d_FO_character_31
theorem c_FO_characterN (l : Launch) (dC : Nat → ClassId) (dI : Nat → Nat → Nat) (o : Nat) (wa : Nat) (sa : Nat) (la : Nat) (sz : Int32) (sc : Int32) (hv : Int32) (cI : ClassId) (B : Nat → Nat) (w : Nat → Int32) (st : Nat → Int32) (ln : Nat → Int32) (c : Nat) (hF : fm_FO B w st ln) (h1 : fm_HF B 2 ≤ c) (h2 : c ≤ fm_HF B 3) : fm_M l (dC, dI) y_FO_character w_FO_character ({ frames := 1, cells := 0, slots := 0, locals := 23 }) [.ref o, .int (nI (c))] [(o, .inr (1, [.ref wa, .ref sa, .ref la, .int (nI (fm_HF B 2)), .int (nI (fm_HF B 3)), .int (sz), .int (sc), .int (hv)])), (wa, .inl (cI, 2048, .inl (w))), (sa, .inl (cI, 10, .inl (st))), (la, .inl (cI, 10, .inl (ln)))] [(cI, .int)] ((fm_W B 1 (c - fm_HF B 2))) := by
  rw [← fm_ch_in hF.1.1 h1 h2]
  exact c_FO_character l dC dI o wa sa la sz sc hv cI B w st ln (nI c) hF
theorem d_FO_isThere_0 : decode b_FO_isThere 0 = .ok (.aload_n 0, 1) := by decide +kernel
theorem d_FO_isThere_1 : decode b_FO_isThere 1 = .ok (.iload_n 1, 1) := by decide +kernel
theorem d_FO_isThere_2 : decode b_FO_isThere 2 = .ok (.invokevirtual 67, 3) := by decide +kernel
theorem d_FO_isThere_5 : decode b_FO_isThere 5 = .ok (.invokestatic 70, 3) := by decide +kernel
theorem d_FO_isThere_8 : decode b_FO_isThere 8 = .ok (.ifCond .eq 7, 3) := by decide +kernel
theorem d_FO_isThere_11 : decode b_FO_isThere 11 = .ok (.iconst 1, 1) := by decide +kernel
theorem d_FO_isThere_12 : decode b_FO_isThere 12 = .ok (.goto 4, 3) := by decide +kernel
theorem d_FO_isThere_15 : decode b_FO_isThere 15 = .ok (.iconst 0, 1) := by decide +kernel
theorem d_FO_isThere_16 : decode b_FO_isThere 16 = .ok (.ireturn, 1) := by decide +kernel
set_option maxHeartbeats 4000000 in
set_option maxRecDepth 100000 in
theorem c_FO_isThere (l : Launch) (dC : Nat → ClassId) (dI : Nat → Nat → Nat) (o : Nat) (wa : Nat) (sa : Nat) (la : Nat) (sz : Int32) (sc : Int32) (hv : Int32) (cI : ClassId) (B : Nat → Nat) (w : Nat → Int32) (st : Nat → Int32) (ln : Nat → Int32) (c : Int32) (hF : fm_FO B w st ln) : fm_M l (dC, dI) y_FO_isThere w_FO_isThere ({ frames := 2, cells := 0, slots := 0, locals := 44 }) [.ref o, .int (c)] [(o, .inr (1, [.ref wa, .ref sa, .ref la, .int (nI (fm_HF B 2)), .int (nI (fm_HF B 3)), .int (sz), .int (sc), .int (hv)])), (wa, .inl (cI, 2048, .inl (w))), (sa, .inl (cI, 10, .inl (st))), (la, .inl (cI, 10, .inl (ln)))] [(cI, .int)] ((fm_bI (fm_thI B c))) := by
  refine Met.ofW (cc := b_FO_isThere) (maxL := 2) (ret := (some .boolean)) (by decide) rfl ?_
  intro pg ev s m args below meth cd s₁ BD hml hv
  obtain ⟨rfl, hP, hK⟩ := hv
  have hx := BD.exec
  have hb := BD.bytes
  have hr := BD.returns
  have hts := atoms_spec (ws := w_FO_isThere) BD.pre
  have ht : ∀ w ∈ fm_T, w.before _ s = true := fun w h => hts w (List.mem_cons_of_mem _ h)
  have hown : s.vm.findClass R_FO = some m.cls := findClass_of_methodNamed BD.named
  have hlocks := BD.notSynchronized
  have S : CallFix pg m cd b_FO_isThere 2 s _ w_FO_isThere R_FO := ⟨hx, hb, hml, hown, hts⟩
  have hl := lv_entry ([.ref o, .int (c)]) (n := 2) (Nat.le_of_ble_eq_true rfl)
  rw [lg_entry_eq]
  generalize (lg_sl ([.ref o, .int (c)]) ++ List.replicate (2 - (lg_sl ([.ref o, .int (c)])).length) Slot.unset).toArray = ls at hl ⊢
  have hl : lv_has ls 2 [(0, .ref o), (1, .int (c))] := hl
  have hB : ∀ i, B i < 256 := hF.1.1
  obtain ⟨hL, hFw, hFs, hFl⟩ := id hF
  obtain ⟨-, hq, h3, h10⟩ := id hL
  refine lv_aload_n hx hb d_FO_isThere_0 rfl (lv_at hl 0 rfl) ?_
  refine lv_iload_n hx hb d_FO_isThere_1 rfl (lv_at hl 1 rfl) ?_
  refine fm_cv S (c_FO_character l dC dI o wa sa la sz sc hv cI B w st ln c (hF)) rfl rfl k_FO_character q_1_149 ⟨Nat.le_of_ble_eq_true rfl, Nat.le_of_ble_eq_true rfl⟩ (hP.sub [0, 1, 2, 3] rfl) (hK.sub [0] rfl) 0 rfl rfl rfl hl.1 rfl (Nat.le_of_ble_eq_true rfl) ⟨Nat.zero_le _, Nat.zero_le _⟩ d_FO_isThere_2 ?_
  refine fm_cs S (c_FO_widthPlace l dC dI (fm_ch B c) ) rfl rfl k_FO_widthPlace q_1_157 ⟨Nat.le_of_ble_eq_true rfl, Nat.le_of_ble_eq_true rfl⟩ (hP.sub [] rfl) (hK.sub [] rfl) rfl hl.1 rfl (Nat.le_of_ble_eq_true rfl) ⟨Nat.zero_le _, Nat.zero_le _⟩ d_FO_isThere_5 ?_
  have f0_5 := fm_by_lt (fm_ch B c) 0
  refine lv_if_eq (tgt := 15) hx hb d_FO_isThere_8 (by decide) (fun c0 => ?_) (fun c0 => ?_)
  · have c_8 : fm_by (fm_ch B c) 0 = 0 := (nI_eq (a := fm_by (fm_ch B c) 0) (b := 0) (by omega) (by omega)).mp c0
    refine lv_iconst (v := nI (0)) hx hb d_FO_isThere_15 (by decide) ?_
    exact W.zret (ty := .boolean) hx hb hr (rfl) (fun t ht hW => ⟨_, rfl, by first | exact fm_bI_1 (by rw [fm_thI_ch hB]; exact decide_eq_true c_8) | exact fm_bI_0 (by rw [fm_thI_ch hB]; exact decide_eq_false (fun z => z c_8)), ht⟩) (fun q hq => by cases hq) d_FO_isThere_16
  · have c_8 : ¬ (fm_by (fm_ch B c) 0 = 0) := fun z => c0 ((nI_eq (a := fm_by (fm_ch B c) 0) (b := 0) (by omega) (by omega)).mpr z)
    refine lv_iconst (v := nI (1)) hx hb d_FO_isThere_11 (by decide) ?_
    refine lv_goto (tgt := 16) hx hb d_FO_isThere_12 (by decide) ?_
    exact W.zret (ty := .boolean) hx hb hr (rfl) (fun t ht hW => ⟨_, rfl, by first | exact fm_bI_1 (by rw [fm_thI_ch hB]; exact decide_eq_true c_8) | exact fm_bI_0 (by rw [fm_thI_ch hB]; exact decide_eq_false (fun z => z c_8)), ht⟩) (fun q hq => by cases hq) d_FO_isThere_16
theorem c_FO_isThereN (l : Launch) (dC : Nat → ClassId) (dI : Nat → Nat → Nat) (o : Nat) (wa : Nat) (sa : Nat) (la : Nat) (sz : Int32) (sc : Int32) (hv : Int32) (cI : ClassId) (B : Nat → Nat) (w : Nat → Int32) (st : Nat → Int32) (ln : Nat → Int32) (c : Nat) (hF : fm_FO B w st ln) (hc : c < 2 ^ 31) : fm_M l (dC, dI) y_FO_isThere w_FO_isThere ({ frames := 2, cells := 0, slots := 0, locals := 44 }) [.ref o, .int (nI (c))] [(o, .inr (1, [.ref wa, .ref sa, .ref la, .int (nI (fm_HF B 2)), .int (nI (fm_HF B 3)), .int (sz), .int (sc), .int (hv)])), (wa, .inl (cI, 2048, .inl (w))), (sa, .inl (cI, 10, .inl (st))), (la, .inl (cI, 10, .inl (ln)))] [(cI, .int)] ((fm_bI (fm_th B c))) := by
  rw [← fm_thI_n hc]
  exact c_FO_isThere l dC dI o wa sa la sz sc hv cI B w st ln (nI c) hF
theorem d_FO_width_0 : decode b_FO_width 0 = .ok (.aload_n 0, 1) := by decide +kernel
theorem d_FO_width_1 : decode b_FO_width 1 = .ok (.aload_n 0, 1) := by decide +kernel
theorem d_FO_width_2 : decode b_FO_width 2 = .ok (.iconst 2, 1) := by decide +kernel
theorem d_FO_width_3 : decode b_FO_width 3 = .ok (.aload_n 0, 1) := by decide +kernel
theorem d_FO_width_4 : decode b_FO_width 4 = .ok (.iload_n 1, 1) := by decide +kernel
theorem d_FO_width_5 : decode b_FO_width 5 = .ok (.invokevirtual 67, 3) := by decide +kernel
theorem d_FO_width_8 : decode b_FO_width 8 = .ok (.invokestatic 70, 3) := by decide +kernel
theorem d_FO_width_11 : decode b_FO_width 11 = .ok (.invokevirtual 60, 3) := by decide +kernel
theorem d_FO_width_14 : decode b_FO_width 14 = .ok (.invokevirtual 73, 3) := by decide +kernel
theorem d_FO_width_17 : decode b_FO_width 17 = .ok (.ireturn, 1) := by decide +kernel
set_option maxHeartbeats 4000000 in
set_option maxRecDepth 100000 in
theorem c_FO_width (l : Launch) (dC : Nat → ClassId) (dI : Nat → Nat → Nat) (o : Nat) (wa : Nat) (sa : Nat) (la : Nat) (sz : Int32) (s0 : Nat) (cI : ClassId) (B : Nat → Nat) (w : Nat → Int32) (st : Nat → Int32) (ln : Nat → Int32) (c : Nat) (hF : fm_FO B w st ln) (h1 : fm_HF B 2 ≤ c) (h2 : c ≤ fm_HF B 3) (hz : fm_all (fm_WD B 1) (fm_size1 B) = true) (hs : s0 < 134217728) : fm_M l (dC, dI) y_FO_width w_FO_width ({ frames := 2, cells := 0, slots := 0, locals := 46 }) [.ref o, .int (nI (c))] [(o, .inr (1, [.ref wa, .ref sa, .ref la, .int (nI (fm_HF B 2)), .int (nI (fm_HF B 3)), .int (sz), .int (nI (fm_z s0)), .int (nI (fm_h s0))])), (wa, .inl (cI, 2048, .inl (w))), (sa, .inl (cI, 10, .inl (st))), (la, .inl (cI, 10, .inl (ln)))] [(cI, .int)] ((fm_sc B s0 2 (fm_pl B c 0))) := by
  refine Met.ofW (cc := b_FO_width) (maxL := 2) (ret := (some .int)) (by decide) rfl ?_
  intro pg ev s m args below meth cd s₁ BD hml hv
  obtain ⟨rfl, hP, hK⟩ := hv
  have hx := BD.exec
  have hb := BD.bytes
  have hr := BD.returns
  have hts := atoms_spec (ws := w_FO_width) BD.pre
  have ht : ∀ w ∈ fm_T, w.before _ s = true := fun w h => hts w (List.mem_cons_of_mem _ h)
  have hown : s.vm.findClass R_FO = some m.cls := findClass_of_methodNamed BD.named
  have hlocks := BD.notSynchronized
  have S : CallFix pg m cd b_FO_width 2 s _ w_FO_width R_FO := ⟨hx, hb, hml, hown, hts⟩
  have hl := lv_entry ([.ref o, .int (nI (c))]) (n := 2) (Nat.le_of_ble_eq_true rfl)
  rw [lg_entry_eq]
  generalize (lg_sl ([.ref o, .int (nI (c))]) ++ List.replicate (2 - (lg_sl ([.ref o, .int (nI (c))])).length) Slot.unset).toArray = ls at hl ⊢
  have hl : lv_has ls 2 [(0, .ref o), (1, .int (nI (c)))] := hl
  have hB : ∀ i, B i < 256 := hF.1.1
  obtain ⟨hL, hFw, hFs, hFl⟩ := id hF
  obtain ⟨-, hq, h3, h10⟩ := id hL
  have hpl := fm_pl_lt hz h1 h2 (show 0 < 4 by decide)
  refine lv_aload_n hx hb d_FO_width_0 rfl (lv_at hl 0 rfl) ?_
  refine lv_aload_n hx hb d_FO_width_1 rfl (lv_at hl 0 rfl) ?_
  refine lv_iconst (v := nI (2)) hx hb d_FO_width_2 (by decide) ?_
  refine lv_aload_n hx hb d_FO_width_3 rfl (lv_at hl 0 rfl) ?_
  refine lv_iload_n hx hb d_FO_width_4 rfl (lv_at hl 1 rfl) ?_
  refine fm_cv S (c_FO_characterN l dC dI o wa sa la sz (nI (fm_z s0)) (nI (fm_h s0)) cI B w st ln c (hF) (h1) (h2)) rfl rfl k_FO_character q_1_149 ⟨Nat.le_of_ble_eq_true rfl, Nat.le_of_ble_eq_true rfl⟩ (hP.sub [0, 1, 2, 3] rfl) (hK.sub [0] rfl) 0 rfl rfl rfl hl.1 rfl (Nat.le_of_ble_eq_true rfl) ⟨Nat.zero_le _, Nat.zero_le _⟩ d_FO_width_5 ?_
  refine fm_cs S (c_FO_widthPlace l dC dI (fm_W B 1 (c - fm_HF B 2)) ) rfl rfl k_FO_widthPlace q_1_157 ⟨Nat.le_of_ble_eq_true rfl, Nat.le_of_ble_eq_true rfl⟩ (hP.sub [] rfl) (hK.sub [] rfl) rfl hl.1 rfl (Nat.le_of_ble_eq_true rfl) ⟨Nat.zero_le _, Nat.zero_le _⟩ d_FO_width_8 ?_
  refine fm_tw (z := nI (fm_AT B 1 (c - fm_HF B 2) 0)) (by simp only [fm_by_W hB _ _ (show 0 < 4 by decide), fm_by_W hB _ _ (show 1 < 4 by decide), fm_by_W hB _ _ (show 2 < 4 by decide), fm_by_W hB _ _ (show 3 < 4 by decide)]) ?_
  have f0_8 := fm_AT_lt hB 1 (c - fm_HF B 2) 0
  refine fm_cv S (c_FO_wordN l dC dI o wa sa la sz (nI (fm_z s0)) (nI (fm_h s0)) cI B w st ln 2 (fm_AT B 1 (c - fm_HF B 2) 0) (hF) (by decide) (hpl)) rfl rfl k_FO_word q_1_153 ⟨Nat.le_of_ble_eq_true rfl, Nat.le_of_ble_eq_true rfl⟩ (hP.sub [0, 1, 2, 3] rfl) (hK.sub [0] rfl) 0 rfl rfl rfl hl.1 rfl (Nat.le_of_ble_eq_true rfl) ⟨Nat.zero_le _, Nat.zero_le _⟩ d_FO_width_11 ?_
  refine fm_cv S (c_FO_scaled l dC dI o wa sa la sz s0 cI B w st ln 2 (fm_AT B 1 (c - fm_HF B 2) 0) (hB) (hs)) rfl rfl k_FO_scaled q_1_184 ⟨Nat.le_of_ble_eq_true rfl, Nat.le_of_ble_eq_true rfl⟩ (hP.sub [0, 1, 2, 3] rfl) (hK.sub [0] rfl) 0 rfl rfl rfl hl.1 rfl (Nat.le_of_ble_eq_true rfl) ⟨Nat.zero_le _, Nat.zero_le _⟩ d_FO_width_14 ?_
  exact W.iret hx hb hr (fun t ht hW => ⟨_, rfl, rfl, ht⟩) (fun q hq => by cases hq) d_FO_width_17
theorem d_FO_height_0 : decode b_FO_height 0 = .ok (.aload_n 0, 1) := by decide +kernel
theorem d_FO_height_1 : decode b_FO_height 1 = .ok (.aload_n 0, 1) := by decide +kernel
theorem d_FO_height_2 : decode b_FO_height 2 = .ok (.iconst 3, 1) := by decide +kernel
theorem d_FO_height_3 : decode b_FO_height 3 = .ok (.aload_n 0, 1) := by decide +kernel
theorem d_FO_height_4 : decode b_FO_height 4 = .ok (.iload_n 1, 1) := by decide +kernel
theorem d_FO_height_5 : decode b_FO_height 5 = .ok (.invokevirtual 67, 3) := by decide +kernel
theorem d_FO_height_8 : decode b_FO_height 8 = .ok (.invokestatic 76, 3) := by decide +kernel
theorem d_FO_height_11 : decode b_FO_height 11 = .ok (.invokevirtual 60, 3) := by decide +kernel
theorem d_FO_height_14 : decode b_FO_height 14 = .ok (.invokevirtual 73, 3) := by decide +kernel
theorem d_FO_height_17 : decode b_FO_height 17 = .ok (.ireturn, 1) := by decide +kernel
set_option maxHeartbeats 4000000 in
set_option maxRecDepth 100000 in
theorem c_FO_height (l : Launch) (dC : Nat → ClassId) (dI : Nat → Nat → Nat) (o : Nat) (wa : Nat) (sa : Nat) (la : Nat) (sz : Int32) (s0 : Nat) (cI : ClassId) (B : Nat → Nat) (w : Nat → Int32) (st : Nat → Int32) (ln : Nat → Int32) (c : Nat) (hF : fm_FO B w st ln) (h1 : fm_HF B 2 ≤ c) (h2 : c ≤ fm_HF B 3) (hz : fm_all (fm_WD B 1) (fm_size1 B) = true) (hs : s0 < 134217728) : fm_M l (dC, dI) y_FO_height w_FO_height ({ frames := 2, cells := 0, slots := 0, locals := 46 }) [.ref o, .int (nI (c))] [(o, .inr (1, [.ref wa, .ref sa, .ref la, .int (nI (fm_HF B 2)), .int (nI (fm_HF B 3)), .int (sz), .int (nI (fm_z s0)), .int (nI (fm_h s0))])), (wa, .inl (cI, 2048, .inl (w))), (sa, .inl (cI, 10, .inl (st))), (la, .inl (cI, 10, .inl (ln)))] [(cI, .int)] ((fm_sc B s0 3 (fm_pl B c 1))) := by
  refine Met.ofW (cc := b_FO_height) (maxL := 2) (ret := (some .int)) (by decide) rfl ?_
  intro pg ev s m args below meth cd s₁ BD hml hv
  obtain ⟨rfl, hP, hK⟩ := hv
  have hx := BD.exec
  have hb := BD.bytes
  have hr := BD.returns
  have hts := atoms_spec (ws := w_FO_height) BD.pre
  have ht : ∀ w ∈ fm_T, w.before _ s = true := fun w h => hts w (List.mem_cons_of_mem _ h)
  have hown : s.vm.findClass R_FO = some m.cls := findClass_of_methodNamed BD.named
  have hlocks := BD.notSynchronized
  have S : CallFix pg m cd b_FO_height 2 s _ w_FO_height R_FO := ⟨hx, hb, hml, hown, hts⟩
  have hl := lv_entry ([.ref o, .int (nI (c))]) (n := 2) (Nat.le_of_ble_eq_true rfl)
  rw [lg_entry_eq]
  generalize (lg_sl ([.ref o, .int (nI (c))]) ++ List.replicate (2 - (lg_sl ([.ref o, .int (nI (c))])).length) Slot.unset).toArray = ls at hl ⊢
  have hl : lv_has ls 2 [(0, .ref o), (1, .int (nI (c)))] := hl
  have hB : ∀ i, B i < 256 := hF.1.1
  obtain ⟨hL, hFw, hFs, hFl⟩ := id hF
  obtain ⟨-, hq, h3, h10⟩ := id hL
  have hpl := fm_pl_lt hz h1 h2 (show 1 < 4 by decide)
  refine lv_aload_n hx hb d_FO_height_0 rfl (lv_at hl 0 rfl) ?_
  refine lv_aload_n hx hb d_FO_height_1 rfl (lv_at hl 0 rfl) ?_
  refine lv_iconst (v := nI (3)) hx hb d_FO_height_2 (by decide) ?_
  refine lv_aload_n hx hb d_FO_height_3 rfl (lv_at hl 0 rfl) ?_
  refine lv_iload_n hx hb d_FO_height_4 rfl (lv_at hl 1 rfl) ?_
  refine fm_cv S (c_FO_characterN l dC dI o wa sa la sz (nI (fm_z s0)) (nI (fm_h s0)) cI B w st ln c (hF) (h1) (h2)) rfl rfl k_FO_character q_1_149 ⟨Nat.le_of_ble_eq_true rfl, Nat.le_of_ble_eq_true rfl⟩ (hP.sub [0, 1, 2, 3] rfl) (hK.sub [0] rfl) 0 rfl rfl rfl hl.1 rfl (Nat.le_of_ble_eq_true rfl) ⟨Nat.zero_le _, Nat.zero_le _⟩ d_FO_height_5 ?_
  refine fm_cs S (c_FO_heightPlace l dC dI (fm_W B 1 (c - fm_HF B 2)) ) rfl rfl k_FO_heightPlace q_2_213 ⟨Nat.le_of_ble_eq_true rfl, Nat.le_of_ble_eq_true rfl⟩ (hP.sub [] rfl) (hK.sub [] rfl) rfl hl.1 rfl (Nat.le_of_ble_eq_true rfl) ⟨Nat.zero_le _, Nat.zero_le _⟩ d_FO_height_8 ?_
  refine fm_tw (z := nI (fm_AT B 1 (c - fm_HF B 2) 1 / 16)) (by simp only [fm_by_W hB _ _ (show 0 < 4 by decide), fm_by_W hB _ _ (show 1 < 4 by decide), fm_by_W hB _ _ (show 2 < 4 by decide), fm_by_W hB _ _ (show 3 < 4 by decide)]) ?_
  have f0_8 := fm_AT_lt hB 1 (c - fm_HF B 2) 1
  refine fm_cv S (c_FO_wordN l dC dI o wa sa la sz (nI (fm_z s0)) (nI (fm_h s0)) cI B w st ln 3 (fm_AT B 1 (c - fm_HF B 2) 1 / 16) (hF) (by decide) (hpl)) rfl rfl k_FO_word q_1_153 ⟨Nat.le_of_ble_eq_true rfl, Nat.le_of_ble_eq_true rfl⟩ (hP.sub [0, 1, 2, 3] rfl) (hK.sub [0] rfl) 0 rfl rfl rfl hl.1 rfl (Nat.le_of_ble_eq_true rfl) ⟨Nat.zero_le _, Nat.zero_le _⟩ d_FO_height_11 ?_
  refine fm_cv S (c_FO_scaled l dC dI o wa sa la sz s0 cI B w st ln 3 (fm_AT B 1 (c - fm_HF B 2) 1 / 16) (hB) (hs)) rfl rfl k_FO_scaled q_1_184 ⟨Nat.le_of_ble_eq_true rfl, Nat.le_of_ble_eq_true rfl⟩ (hP.sub [0, 1, 2, 3] rfl) (hK.sub [0] rfl) 0 rfl rfl rfl hl.1 rfl (Nat.le_of_ble_eq_true rfl) ⟨Nat.zero_le _, Nat.zero_le _⟩ d_FO_height_14 ?_
  exact W.iret hx hb hr (fun t ht hW => ⟨_, rfl, rfl, ht⟩) (fun q hq => by cases hq) d_FO_height_17
theorem d_FO_depth_0 : decode b_FO_depth 0 = .ok (.aload_n 0, 1) := by decide +kernel
theorem d_FO_depth_1 : decode b_FO_depth 1 = .ok (.aload_n 0, 1) := by decide +kernel
theorem d_FO_depth_2 : decode b_FO_depth 2 = .ok (.iconst 4, 1) := by decide +kernel
theorem d_FO_depth_3 : decode b_FO_depth 3 = .ok (.aload_n 0, 1) := by decide +kernel
theorem d_FO_depth_4 : decode b_FO_depth 4 = .ok (.iload_n 1, 1) := by decide +kernel
theorem d_FO_depth_5 : decode b_FO_depth 5 = .ok (.invokevirtual 67, 3) := by decide +kernel
theorem d_FO_depth_8 : decode b_FO_depth 8 = .ok (.invokestatic 79, 3) := by decide +kernel
theorem d_FO_depth_11 : decode b_FO_depth 11 = .ok (.invokevirtual 60, 3) := by decide +kernel
theorem d_FO_depth_14 : decode b_FO_depth 14 = .ok (.invokevirtual 73, 3) := by decide +kernel
theorem d_FO_depth_17 : decode b_FO_depth 17 = .ok (.ireturn, 1) := by decide +kernel
set_option maxHeartbeats 4000000 in
set_option maxRecDepth 100000 in
theorem c_FO_depth (l : Launch) (dC : Nat → ClassId) (dI : Nat → Nat → Nat) (o : Nat) (wa : Nat) (sa : Nat) (la : Nat) (sz : Int32) (s0 : Nat) (cI : ClassId) (B : Nat → Nat) (w : Nat → Int32) (st : Nat → Int32) (ln : Nat → Int32) (c : Nat) (hF : fm_FO B w st ln) (h1 : fm_HF B 2 ≤ c) (h2 : c ≤ fm_HF B 3) (hz : fm_all (fm_WD B 1) (fm_size1 B) = true) (hs : s0 < 134217728) : fm_M l (dC, dI) y_FO_depth w_FO_depth ({ frames := 2, cells := 0, slots := 0, locals := 46 }) [.ref o, .int (nI (c))] [(o, .inr (1, [.ref wa, .ref sa, .ref la, .int (nI (fm_HF B 2)), .int (nI (fm_HF B 3)), .int (sz), .int (nI (fm_z s0)), .int (nI (fm_h s0))])), (wa, .inl (cI, 2048, .inl (w))), (sa, .inl (cI, 10, .inl (st))), (la, .inl (cI, 10, .inl (ln)))] [(cI, .int)] ((fm_sc B s0 4 (fm_pl B c 2))) := by
  refine Met.ofW (cc := b_FO_depth) (maxL := 2) (ret := (some .int)) (by decide) rfl ?_
  intro pg ev s m args below meth cd s₁ BD hml hv
  obtain ⟨rfl, hP, hK⟩ := hv
  have hx := BD.exec
  have hb := BD.bytes
  have hr := BD.returns
  have hts := atoms_spec (ws := w_FO_depth) BD.pre
  have ht : ∀ w ∈ fm_T, w.before _ s = true := fun w h => hts w (List.mem_cons_of_mem _ h)
  have hown : s.vm.findClass R_FO = some m.cls := findClass_of_methodNamed BD.named
  have hlocks := BD.notSynchronized
  have S : CallFix pg m cd b_FO_depth 2 s _ w_FO_depth R_FO := ⟨hx, hb, hml, hown, hts⟩
  have hl := lv_entry ([.ref o, .int (nI (c))]) (n := 2) (Nat.le_of_ble_eq_true rfl)
  rw [lg_entry_eq]
  generalize (lg_sl ([.ref o, .int (nI (c))]) ++ List.replicate (2 - (lg_sl ([.ref o, .int (nI (c))])).length) Slot.unset).toArray = ls at hl ⊢
  have hl : lv_has ls 2 [(0, .ref o), (1, .int (nI (c)))] := hl
  have hB : ∀ i, B i < 256 := hF.1.1
  obtain ⟨hL, hFw, hFs, hFl⟩ := id hF
  obtain ⟨-, hq, h3, h10⟩ := id hL
  have hpl := fm_pl_lt hz h1 h2 (show 2 < 4 by decide)
  refine lv_aload_n hx hb d_FO_depth_0 rfl (lv_at hl 0 rfl) ?_
  refine lv_aload_n hx hb d_FO_depth_1 rfl (lv_at hl 0 rfl) ?_
  refine lv_iconst (v := nI (4)) hx hb d_FO_depth_2 (by decide) ?_
  refine lv_aload_n hx hb d_FO_depth_3 rfl (lv_at hl 0 rfl) ?_
  refine lv_iload_n hx hb d_FO_depth_4 rfl (lv_at hl 1 rfl) ?_
  refine fm_cv S (c_FO_characterN l dC dI o wa sa la sz (nI (fm_z s0)) (nI (fm_h s0)) cI B w st ln c (hF) (h1) (h2)) rfl rfl k_FO_character q_1_149 ⟨Nat.le_of_ble_eq_true rfl, Nat.le_of_ble_eq_true rfl⟩ (hP.sub [0, 1, 2, 3] rfl) (hK.sub [0] rfl) 0 rfl rfl rfl hl.1 rfl (Nat.le_of_ble_eq_true rfl) ⟨Nat.zero_le _, Nat.zero_le _⟩ d_FO_depth_5 ?_
  refine fm_cs S (c_FO_depthPlace l dC dI (fm_W B 1 (c - fm_HF B 2)) ) rfl rfl k_FO_depthPlace q_2_218 ⟨Nat.le_of_ble_eq_true rfl, Nat.le_of_ble_eq_true rfl⟩ (hP.sub [] rfl) (hK.sub [] rfl) rfl hl.1 rfl (Nat.le_of_ble_eq_true rfl) ⟨Nat.zero_le _, Nat.zero_le _⟩ d_FO_depth_8 ?_
  refine fm_tw (z := nI (fm_AT B 1 (c - fm_HF B 2) 1 % 16)) (by simp only [fm_by_W hB _ _ (show 0 < 4 by decide), fm_by_W hB _ _ (show 1 < 4 by decide), fm_by_W hB _ _ (show 2 < 4 by decide), fm_by_W hB _ _ (show 3 < 4 by decide)]) ?_
  have f0_8 := fm_AT_lt hB 1 (c - fm_HF B 2) 1
  refine fm_cv S (c_FO_wordN l dC dI o wa sa la sz (nI (fm_z s0)) (nI (fm_h s0)) cI B w st ln 4 (fm_AT B 1 (c - fm_HF B 2) 1 % 16) (hF) (by decide) (hpl)) rfl rfl k_FO_word q_1_153 ⟨Nat.le_of_ble_eq_true rfl, Nat.le_of_ble_eq_true rfl⟩ (hP.sub [0, 1, 2, 3] rfl) (hK.sub [0] rfl) 0 rfl rfl rfl hl.1 rfl (Nat.le_of_ble_eq_true rfl) ⟨Nat.zero_le _, Nat.zero_le _⟩ d_FO_depth_11 ?_
  refine fm_cv S (c_FO_scaled l dC dI o wa sa la sz s0 cI B w st ln 4 (fm_AT B 1 (c - fm_HF B 2) 1 % 16) (hB) (hs)) rfl rfl k_FO_scaled q_1_184 ⟨Nat.le_of_ble_eq_true rfl, Nat.le_of_ble_eq_true rfl⟩ (hP.sub [0, 1, 2, 3] rfl) (hK.sub [0] rfl) 0 rfl rfl rfl hl.1 rfl (Nat.le_of_ble_eq_true rfl) ⟨Nat.zero_le _, Nat.zero_le _⟩ d_FO_depth_14 ?_
  exact W.iret hx hb hr (fun t ht hW => ⟨_, rfl, rfl, ht⟩) (fun q hq => by cases hq) d_FO_depth_17
theorem d_FO_italic_0 : decode b_FO_italic 0 = .ok (.aload_n 0, 1) := by decide +kernel
theorem d_FO_italic_1 : decode b_FO_italic 1 = .ok (.aload_n 0, 1) := by decide +kernel
theorem d_FO_italic_2 : decode b_FO_italic 2 = .ok (.iconst 5, 1) := by decide +kernel
theorem d_FO_italic_3 : decode b_FO_italic 3 = .ok (.aload_n 0, 1) := by decide +kernel
theorem d_FO_italic_4 : decode b_FO_italic 4 = .ok (.iload_n 1, 1) := by decide +kernel
theorem d_FO_italic_5 : decode b_FO_italic 5 = .ok (.invokevirtual 67, 3) := by decide +kernel
theorem d_FO_italic_8 : decode b_FO_italic 8 = .ok (.invokestatic 82, 3) := by decide +kernel
theorem d_FO_italic_11 : decode b_FO_italic 11 = .ok (.invokevirtual 60, 3) := by decide +kernel
theorem d_FO_italic_14 : decode b_FO_italic 14 = .ok (.invokevirtual 73, 3) := by decide +kernel
theorem d_FO_italic_17 : decode b_FO_italic 17 = .ok (.ireturn, 1) := by decide +kernel
set_option maxHeartbeats 4000000 in
set_option maxRecDepth 100000 in
theorem c_FO_italic (l : Launch) (dC : Nat → ClassId) (dI : Nat → Nat → Nat) (o : Nat) (wa : Nat) (sa : Nat) (la : Nat) (sz : Int32) (s0 : Nat) (cI : ClassId) (B : Nat → Nat) (w : Nat → Int32) (st : Nat → Int32) (ln : Nat → Int32) (c : Nat) (hF : fm_FO B w st ln) (h1 : fm_HF B 2 ≤ c) (h2 : c ≤ fm_HF B 3) (hz : fm_all (fm_WD B 1) (fm_size1 B) = true) (hs : s0 < 134217728) : fm_M l (dC, dI) y_FO_italic w_FO_italic ({ frames := 2, cells := 0, slots := 0, locals := 46 }) [.ref o, .int (nI (c))] [(o, .inr (1, [.ref wa, .ref sa, .ref la, .int (nI (fm_HF B 2)), .int (nI (fm_HF B 3)), .int (sz), .int (nI (fm_z s0)), .int (nI (fm_h s0))])), (wa, .inl (cI, 2048, .inl (w))), (sa, .inl (cI, 10, .inl (st))), (la, .inl (cI, 10, .inl (ln)))] [(cI, .int)] ((fm_sc B s0 5 (fm_pl B c 3))) := by
  refine Met.ofW (cc := b_FO_italic) (maxL := 2) (ret := (some .int)) (by decide) rfl ?_
  intro pg ev s m args below meth cd s₁ BD hml hv
  obtain ⟨rfl, hP, hK⟩ := hv
  have hx := BD.exec
  have hb := BD.bytes
  have hr := BD.returns
  have hts := atoms_spec (ws := w_FO_italic) BD.pre
  have ht : ∀ w ∈ fm_T, w.before _ s = true := fun w h => hts w (List.mem_cons_of_mem _ h)
  have hown : s.vm.findClass R_FO = some m.cls := findClass_of_methodNamed BD.named
  have hlocks := BD.notSynchronized
  have S : CallFix pg m cd b_FO_italic 2 s _ w_FO_italic R_FO := ⟨hx, hb, hml, hown, hts⟩
  have hl := lv_entry ([.ref o, .int (nI (c))]) (n := 2) (Nat.le_of_ble_eq_true rfl)
  rw [lg_entry_eq]
  generalize (lg_sl ([.ref o, .int (nI (c))]) ++ List.replicate (2 - (lg_sl ([.ref o, .int (nI (c))])).length) Slot.unset).toArray = ls at hl ⊢
  have hl : lv_has ls 2 [(0, .ref o), (1, .int (nI (c)))] := hl
  have hB : ∀ i, B i < 256 := hF.1.1
  obtain ⟨hL, hFw, hFs, hFl⟩ := id hF
  obtain ⟨-, hq, h3, h10⟩ := id hL
  have hpl := fm_pl_lt hz h1 h2 (show 3 < 4 by decide)
  refine lv_aload_n hx hb d_FO_italic_0 rfl (lv_at hl 0 rfl) ?_
  refine lv_aload_n hx hb d_FO_italic_1 rfl (lv_at hl 0 rfl) ?_
  refine lv_iconst (v := nI (5)) hx hb d_FO_italic_2 (by decide) ?_
  refine lv_aload_n hx hb d_FO_italic_3 rfl (lv_at hl 0 rfl) ?_
  refine lv_iload_n hx hb d_FO_italic_4 rfl (lv_at hl 1 rfl) ?_
  refine fm_cv S (c_FO_characterN l dC dI o wa sa la sz (nI (fm_z s0)) (nI (fm_h s0)) cI B w st ln c (hF) (h1) (h2)) rfl rfl k_FO_character q_1_149 ⟨Nat.le_of_ble_eq_true rfl, Nat.le_of_ble_eq_true rfl⟩ (hP.sub [0, 1, 2, 3] rfl) (hK.sub [0] rfl) 0 rfl rfl rfl hl.1 rfl (Nat.le_of_ble_eq_true rfl) ⟨Nat.zero_le _, Nat.zero_le _⟩ d_FO_italic_5 ?_
  refine fm_cs S (c_FO_italicPlace l dC dI (fm_W B 1 (c - fm_HF B 2)) ) rfl rfl k_FO_italicPlace q_2_223 ⟨Nat.le_of_ble_eq_true rfl, Nat.le_of_ble_eq_true rfl⟩ (hP.sub [] rfl) (hK.sub [] rfl) rfl hl.1 rfl (Nat.le_of_ble_eq_true rfl) ⟨Nat.zero_le _, Nat.zero_le _⟩ d_FO_italic_8 ?_
  refine fm_tw (z := nI (fm_AT B 1 (c - fm_HF B 2) 2 / 4)) (by simp only [fm_by_W hB _ _ (show 0 < 4 by decide), fm_by_W hB _ _ (show 1 < 4 by decide), fm_by_W hB _ _ (show 2 < 4 by decide), fm_by_W hB _ _ (show 3 < 4 by decide)]) ?_
  have f0_8 := fm_AT_lt hB 1 (c - fm_HF B 2) 2
  refine fm_cv S (c_FO_wordN l dC dI o wa sa la sz (nI (fm_z s0)) (nI (fm_h s0)) cI B w st ln 5 (fm_AT B 1 (c - fm_HF B 2) 2 / 4) (hF) (by decide) (hpl)) rfl rfl k_FO_word q_1_153 ⟨Nat.le_of_ble_eq_true rfl, Nat.le_of_ble_eq_true rfl⟩ (hP.sub [0, 1, 2, 3] rfl) (hK.sub [0] rfl) 0 rfl rfl rfl hl.1 rfl (Nat.le_of_ble_eq_true rfl) ⟨Nat.zero_le _, Nat.zero_le _⟩ d_FO_italic_11 ?_
  refine fm_cv S (c_FO_scaled l dC dI o wa sa la sz s0 cI B w st ln 5 (fm_AT B 1 (c - fm_HF B 2) 2 / 4) (hB) (hs)) rfl rfl k_FO_scaled q_1_184 ⟨Nat.le_of_ble_eq_true rfl, Nat.le_of_ble_eq_true rfl⟩ (hP.sub [0, 1, 2, 3] rfl) (hK.sub [0] rfl) 0 rfl rfl rfl hl.1 rfl (Nat.le_of_ble_eq_true rfl) ⟨Nat.zero_le _, Nat.zero_le _⟩ d_FO_italic_14 ?_
  exact W.iret hx hb hr (fun t ht hW => ⟨_, rfl, rfl, ht⟩) (fun q hq => by cases hq) d_FO_italic_17
theorem d_FO_edge_0 : decode b_FO_edge 0 = .ok (.aload_n 0, 1) := by decide +kernel
theorem d_FO_edge_1 : decode b_FO_edge 1 = .ok (.bipush 6, 2) := by decide +kernel
theorem d_FO_edge_3 : decode b_FO_edge 3 = .ok (.iconst 0, 1) := by decide +kernel
theorem d_FO_edge_4 : decode b_FO_edge 4 = .ok (.invokevirtual 60, 3) := by decide +kernel
theorem d_FO_edge_7 : decode b_FO_edge 7 = .ok (.istore_n 1, 1) := by decide +kernel
theorem d_FO_edge_8 : decode b_FO_edge 8 = .ok (.iload_n 1, 1) := by decide +kernel
theorem d_FO_edge_9 : decode b_FO_edge 9 = .ok (.iconst 0, 1) := by decide +kernel
theorem d_FO_edge_10 : decode b_FO_edge 10 = .ok (.invokestatic 64, 3) := by decide +kernel
theorem d_FO_edge_13 : decode b_FO_edge 13 = .ok (.sipush 255, 3) := by decide +kernel
theorem d_FO_edge_16 : decode b_FO_edge 16 = .ok (.if_icmp .ne 11, 3) := by decide +kernel
theorem d_FO_edge_19 : decode b_FO_edge 19 = .ok (.iload_n 1, 1) := by decide +kernel
theorem d_FO_edge_20 : decode b_FO_edge 20 = .ok (.iconst 1, 1) := by decide +kernel
theorem d_FO_edge_21 : decode b_FO_edge 21 = .ok (.invokestatic 64, 3) := by decide +kernel
theorem d_FO_edge_24 : decode b_FO_edge 24 = .ok (.goto 4, 3) := by decide +kernel
theorem d_FO_edge_27 : decode b_FO_edge 27 = .ok (.iconst (-1), 1) := by decide +kernel
theorem d_FO_edge_28 : decode b_FO_edge 28 = .ok (.ireturn, 1) := by decide +kernel
set_option maxHeartbeats 4000000 in
set_option maxRecDepth 100000 in
theorem c_FO_edge (l : Launch) (dC : Nat → ClassId) (dI : Nat → Nat → Nat) (o : Nat) (wa : Nat) (sa : Nat) (la : Nat) (sz : Int32) (sc : Int32) (hv : Int32) (cI : ClassId) (B : Nat → Nat) (w : Nat → Int32) (st : Nat → Int32) (ln : Nat → Int32) (hF : fm_FO B w st ln) : fm_M l (dC, dI) y_FO_edge w_FO_edge ({ frames := 1, cells := 0, slots := 0, locals := 23 }) [.ref o] [(o, .inr (1, [.ref wa, .ref sa, .ref la, .int (nI (fm_HF B 2)), .int (nI (fm_HF B 3)), .int (sz), .int (sc), .int (hv)])), (wa, .inl (cI, 2048, .inl (w))), (sa, .inl (cI, 10, .inl (st))), (la, .inl (cI, 10, .inl (ln)))] [(cI, .int)] ((fm_eg B)) := by
  refine Met.ofW (cc := b_FO_edge) (maxL := 2) (ret := (some .int)) (by decide) rfl ?_
  intro pg ev s m args below meth cd s₁ BD hml hv
  obtain ⟨rfl, hP, hK⟩ := hv
  have hx := BD.exec
  have hb := BD.bytes
  have hr := BD.returns
  have hts := atoms_spec (ws := w_FO_edge) BD.pre
  have ht : ∀ w ∈ fm_T, w.before _ s = true := fun w h => hts w (List.mem_cons_of_mem _ h)
  have hown : s.vm.findClass R_FO = some m.cls := findClass_of_methodNamed BD.named
  have hlocks := BD.notSynchronized
  have S : CallFix pg m cd b_FO_edge 2 s _ w_FO_edge R_FO := ⟨hx, hb, hml, hown, hts⟩
  have hl := lv_entry ([.ref o]) (n := 2) (Nat.le_of_ble_eq_true rfl)
  rw [lg_entry_eq]
  generalize (lg_sl ([.ref o]) ++ List.replicate (2 - (lg_sl ([.ref o])).length) Slot.unset).toArray = ls at hl ⊢
  have hl : lv_has ls 2 [(0, .ref o)] := hl
  have hB : ∀ i, B i < 256 := hF.1.1
  obtain ⟨hL, hFw, hFs, hFl⟩ := id hF
  obtain ⟨-, hq, h3, h10⟩ := id hL
  refine lv_aload_n hx hb d_FO_edge_0 rfl (lv_at hl 0 rfl) ?_
  refine lv_bipush (v := nI (6)) hx hb d_FO_edge_1 (by decide) ?_
  refine lv_iconst (v := nI (0)) hx hb d_FO_edge_3 (by decide) ?_
  refine fm_cv S (c_FO_word l dC dI o wa sa la sz sc hv cI B w st ln 6 (nI (0)) (hF) (by omega)) rfl rfl k_FO_word q_1_153 ⟨Nat.le_of_ble_eq_true rfl, Nat.le_of_ble_eq_true rfl⟩ (hP.sub [0, 1, 2, 3] rfl) (hK.sub [0] rfl) 0 rfl rfl rfl hl.1 rfl (Nat.le_of_ble_eq_true rfl) ⟨Nat.zero_le _, Nat.zero_le _⟩ d_FO_edge_4 ?_
  refine lv_istore_n (lv' := [(1, .int (fm_wd B 6 (nI (0)))), (0, .ref o)]) hx hb d_FO_edge_7 rfl hl (by decide) rfl (fun ls hl => ?_)
  refine lv_iload_n hx hb d_FO_edge_8 rfl (lv_at hl 0 rfl) ?_
  refine lv_iconst (v := nI (0)) hx hb d_FO_edge_9 (by decide) ?_
  refine fm_cs S (c_FO_byteOf l dC dI (fm_wd B 6 (nI (0))) 0 (by omega)) rfl rfl k_FO_byteOf q_1_189 ⟨Nat.le_of_ble_eq_true rfl, Nat.le_of_ble_eq_true rfl⟩ (hP.sub [] rfl) (hK.sub [] rfl) rfl hl.1 rfl (Nat.le_of_ble_eq_true rfl) ⟨Nat.zero_le _, Nat.zero_le _⟩ d_FO_edge_10 ?_
  have f0_10 := fm_by_lt (fm_wd B 6 (nI (0))) 0
  refine lv_sipush (v := nI (255)) hx hb d_FO_edge_13 (by decide) ?_
  refine lv_icmp_ne (tgt := 27) hx hb d_FO_edge_16 (by decide) (fun c0 => ?_) (fun c0 => ?_)
  · have c_16 : ¬ (fm_by (fm_wd B 6 (nI (0))) 0 = 255) := fun z => c0 ((nI_eq (a := fm_by (fm_wd B 6 (nI (0))) 0) (b := 255) (by omega) (by omega)).mpr z)
    refine lv_iconst (v := ((-1))) hx hb d_FO_edge_27 (by decide) ?_
    exact W.iret hx hb hr (fun t ht hW => ⟨_, rfl, by rw [fm_eg_wd hB, if_neg c_16], ht⟩) (fun q hq => by cases hq) d_FO_edge_28
  · have c_16 : fm_by (fm_wd B 6 (nI (0))) 0 = 255 := (nI_eq (a := fm_by (fm_wd B 6 (nI (0))) 0) (b := 255) (by omega) (by omega)).mp c0
    refine lv_iload_n hx hb d_FO_edge_19 rfl (lv_at hl 0 rfl) ?_
    refine lv_iconst (v := nI (1)) hx hb d_FO_edge_20 (by decide) ?_
    refine fm_cs S (c_FO_byteOf l dC dI (fm_wd B 6 (nI (0))) 1 (by omega)) rfl rfl k_FO_byteOf q_1_189 ⟨Nat.le_of_ble_eq_true rfl, Nat.le_of_ble_eq_true rfl⟩ (hP.sub [] rfl) (hK.sub [] rfl) rfl hl.1 rfl (Nat.le_of_ble_eq_true rfl) ⟨Nat.zero_le _, Nat.zero_le _⟩ d_FO_edge_21 ?_
    have f0_21 := fm_by_lt (fm_wd B 6 (nI (0))) 1
    refine lv_goto (tgt := 28) hx hb d_FO_edge_24 (by decide) ?_
    exact W.iret hx hb hr (fun t ht hW => ⟨_, rfl, by rw [fm_eg_wd hB, if_pos c_16], ht⟩) (fun q hq => by cases hq) d_FO_edge_28
theorem d_FO_edgeStart_0 : decode b_FO_edgeStart 0 = .ok (.aload_n 0, 1) := by decide +kernel
theorem d_FO_edgeStart_1 : decode b_FO_edgeStart 1 = .ok (.bipush 6, 2) := by decide +kernel
theorem d_FO_edgeStart_3 : decode b_FO_edgeStart 3 = .ok (.aload_n 0, 1) := by decide +kernel
theorem d_FO_edgeStart_4 : decode b_FO_edgeStart 4 = .ok (.bipush 6, 2) := by decide +kernel
theorem d_FO_edgeStart_6 : decode b_FO_edgeStart 6 = .ok (.invokevirtual 85, 3) := by decide +kernel
theorem d_FO_edgeStart_9 : decode b_FO_edgeStart 9 = .ok (.iconst 1, 1) := by decide +kernel
theorem d_FO_edgeStart_10 : decode b_FO_edgeStart 10 = .ok (.isub, 1) := by decide +kernel
theorem d_FO_edgeStart_11 : decode b_FO_edgeStart 11 = .ok (.invokevirtual 60, 3) := by decide +kernel
theorem d_FO_edgeStart_14 : decode b_FO_edgeStart 14 = .ok (.istore_n 1, 1) := by decide +kernel
theorem d_FO_edgeStart_15 : decode b_FO_edgeStart 15 = .ok (.iload_n 1, 1) := by decide +kernel
theorem d_FO_edgeStart_16 : decode b_FO_edgeStart 16 = .ok (.iconst 0, 1) := by decide +kernel
theorem d_FO_edgeStart_17 : decode b_FO_edgeStart 17 = .ok (.invokestatic 64, 3) := by decide +kernel
theorem d_FO_edgeStart_20 : decode b_FO_edgeStart 20 = .ok (.sipush 255, 3) := by decide +kernel
theorem d_FO_edgeStart_23 : decode b_FO_edgeStart 23 = .ok (.if_icmp .ne 10, 3) := by decide +kernel
theorem d_FO_edgeStart_26 : decode b_FO_edgeStart 26 = .ok (.iload_n 1, 1) := by decide +kernel
theorem d_FO_edgeStart_27 : decode b_FO_edgeStart 27 = .ok (.invokestatic 88, 3) := by decide +kernel
theorem d_FO_edgeStart_30 : decode b_FO_edgeStart 30 = .ok (.goto 4, 3) := by decide +kernel
theorem d_FO_edgeStart_33 : decode b_FO_edgeStart 33 = .ok (.iconst (-1), 1) := by decide +kernel
theorem d_FO_edgeStart_34 : decode b_FO_edgeStart 34 = .ok (.ireturn, 1) := by decide +kernel
set_option maxHeartbeats 4000000 in
set_option maxRecDepth 100000 in
theorem c_FO_edgeStart (l : Launch) (dC : Nat → ClassId) (dI : Nat → Nat → Nat) (o : Nat) (wa : Nat) (sa : Nat) (la : Nat) (sz : Int32) (sc : Int32) (hv : Int32) (cI : ClassId) (B : Nat → Nat) (w : Nat → Int32) (st : Nat → Int32) (ln : Nat → Int32) (hF : fm_FO B w st ln) : fm_M l (dC, dI) y_FO_edgeStart w_FO_edgeStart ({ frames := 1, cells := 0, slots := 0, locals := 23 }) [.ref o] [(o, .inr (1, [.ref wa, .ref sa, .ref la, .int (nI (fm_HF B 2)), .int (nI (fm_HF B 3)), .int (sz), .int (sc), .int (hv)])), (wa, .inl (cI, 2048, .inl (w))), (sa, .inl (cI, 10, .inl (st))), (la, .inl (cI, 10, .inl (ln)))] [(cI, .int)] ((fm_ep B)) := by
  refine Met.ofW (cc := b_FO_edgeStart) (maxL := 2) (ret := (some .int)) (by decide) rfl ?_
  intro pg ev s m args below meth cd s₁ BD hml hv
  obtain ⟨rfl, hP, hK⟩ := hv
  have hx := BD.exec
  have hb := BD.bytes
  have hr := BD.returns
  have hts := atoms_spec (ws := w_FO_edgeStart) BD.pre
  have ht : ∀ w ∈ fm_T, w.before _ s = true := fun w h => hts w (List.mem_cons_of_mem _ h)
  have hown : s.vm.findClass R_FO = some m.cls := findClass_of_methodNamed BD.named
  have hlocks := BD.notSynchronized
  have S : CallFix pg m cd b_FO_edgeStart 2 s _ w_FO_edgeStart R_FO := ⟨hx, hb, hml, hown, hts⟩
  have hl := lv_entry ([.ref o]) (n := 2) (Nat.le_of_ble_eq_true rfl)
  rw [lg_entry_eq]
  generalize (lg_sl ([.ref o]) ++ List.replicate (2 - (lg_sl ([.ref o])).length) Slot.unset).toArray = ls at hl ⊢
  have hl : lv_has ls 2 [(0, .ref o)] := hl
  have hB : ∀ i, B i < 256 := hF.1.1
  obtain ⟨hL, hFw, hFs, hFl⟩ := id hF
  obtain ⟨-, hq, h3, h10⟩ := id hL
  refine lv_aload_n hx hb d_FO_edgeStart_0 rfl (lv_at hl 0 rfl) ?_
  refine lv_bipush (v := nI (6)) hx hb d_FO_edgeStart_1 (by decide) ?_
  refine lv_aload_n hx hb d_FO_edgeStart_3 rfl (lv_at hl 0 rfl) ?_
  refine lv_bipush (v := nI (6)) hx hb d_FO_edgeStart_4 (by decide) ?_
  refine fm_cv S (c_FO_lengthOfN l dC dI o wa sa la sz sc hv cI B w st ln 6 (hF) (by omega)) rfl rfl k_FO_lengthOf q_2_178 ⟨Nat.le_of_ble_eq_true rfl, Nat.le_of_ble_eq_true rfl⟩ (hP.sub [0, 1, 2, 3] rfl) (hK.sub [0] rfl) 0 rfl rfl rfl hl.1 rfl (Nat.le_of_ble_eq_true rfl) ⟨Nat.zero_le _, Nat.zero_le _⟩ d_FO_edgeStart_6 ?_
  have f0_6 := fm_WD_le hB 6
  refine lv_iconst (v := nI (1)) hx hb d_FO_edgeStart_9 (by decide) ?_
  refine lv_isub hx hb d_FO_edgeStart_10 ?_
  refine fm_tw (z := (nI (fm_WD B 6) - nI 1)) (rfl) ?_
  refine fm_cv S (c_FO_word l dC dI o wa sa la sz sc hv cI B w st ln 6 (nI (fm_WD B 6) - nI 1) (hF) (by omega)) rfl rfl k_FO_word q_1_153 ⟨Nat.le_of_ble_eq_true rfl, Nat.le_of_ble_eq_true rfl⟩ (hP.sub [0, 1, 2, 3] rfl) (hK.sub [0] rfl) 0 rfl rfl rfl hl.1 rfl (Nat.le_of_ble_eq_true rfl) ⟨Nat.zero_le _, Nat.zero_le _⟩ d_FO_edgeStart_11 ?_
  refine lv_istore_n (lv' := [(1, .int (fm_wd B 6 (nI (fm_WD B 6) - nI 1))), (0, .ref o)]) hx hb d_FO_edgeStart_14 rfl hl (by decide) rfl (fun ls hl => ?_)
  refine lv_iload_n hx hb d_FO_edgeStart_15 rfl (lv_at hl 0 rfl) ?_
  refine lv_iconst (v := nI (0)) hx hb d_FO_edgeStart_16 (by decide) ?_
  refine fm_cs S (c_FO_byteOf l dC dI (fm_wd B 6 (nI (fm_WD B 6) - nI 1)) 0 (by omega)) rfl rfl k_FO_byteOf q_1_189 ⟨Nat.le_of_ble_eq_true rfl, Nat.le_of_ble_eq_true rfl⟩ (hP.sub [] rfl) (hK.sub [] rfl) rfl hl.1 rfl (Nat.le_of_ble_eq_true rfl) ⟨Nat.zero_le _, Nat.zero_le _⟩ d_FO_edgeStart_17 ?_
  have f0_17 := fm_by_lt (fm_wd B 6 (nI (fm_WD B 6) - nI 1)) 0
  refine lv_sipush (v := nI (255)) hx hb d_FO_edgeStart_20 (by decide) ?_
  refine lv_icmp_ne (tgt := 33) hx hb d_FO_edgeStart_23 (by decide) (fun c0 => ?_) (fun c0 => ?_)
  · have c_23 : ¬ (fm_by (fm_wd B 6 (nI (fm_WD B 6) - nI 1)) 0 = 255) := fun z => c0 ((nI_eq (a := fm_by (fm_wd B 6 (nI (fm_WD B 6) - nI 1)) 0) (b := 255) (by omega) (by omega)).mpr z)
    refine lv_iconst (v := ((-1))) hx hb d_FO_edgeStart_33 (by decide) ?_
    exact W.iret hx hb hr (fun t ht hW => ⟨_, rfl, by rw [fm_ep_wd hB, if_neg c_23], ht⟩) (fun q hq => by cases hq) d_FO_edgeStart_34
  · have c_23 : fm_by (fm_wd B 6 (nI (fm_WD B 6) - nI 1)) 0 = 255 := (nI_eq (a := fm_by (fm_wd B 6 (nI (fm_WD B 6) - nI 1)) 0) (b := 255) (by omega) (by omega)).mp c0
    refine lv_iload_n hx hb d_FO_edgeStart_26 rfl (lv_at hl 0 rfl) ?_
    refine fm_cs S (c_FO_target l dC dI (fm_wd B 6 (nI (fm_WD B 6) - nI 1)) ) rfl rfl k_FO_target q_2_179 ⟨Nat.le_of_ble_eq_true rfl, Nat.le_of_ble_eq_true rfl⟩ (hP.sub [] rfl) (hK.sub [] rfl) rfl hl.1 rfl (Nat.le_of_ble_eq_true rfl) ⟨Nat.zero_le _, Nat.zero_le _⟩ d_FO_edgeStart_27 ?_
    have f0_27 := fm_by_lt (fm_wd B 6 (nI (fm_WD B 6) - nI 1)) 2
    have f1_27 := fm_by_lt (fm_wd B 6 (nI (fm_WD B 6) - nI 1)) 3
    refine lv_goto (tgt := 34) hx hb d_FO_edgeStart_30 (by decide) ?_
    exact W.iret hx hb hr (fun t ht hW => ⟨_, rfl, by rw [fm_ep_wd hB, if_pos c_23], ht⟩) (fun q hq => by cases hq) d_FO_edgeStart_34
theorem d_FO_programStart_0 : decode b_FO_programStart 0 = .ok (.iload_n 1, 1) := by decide +kernel
theorem d_FO_programStart_1 : decode b_FO_programStart 1 = .ok (.sipush 256, 3) := by decide +kernel
theorem d_FO_programStart_4 : decode b_FO_programStart 4 = .ok (.if_icmp .ne 10, 3) := by decide +kernel
theorem d_FO_programStart_7 : decode b_FO_programStart 7 = .ok (.aload_n 0, 1) := by decide +kernel
theorem d_FO_programStart_8 : decode b_FO_programStart 8 = .ok (.invokevirtual 101, 3) := by decide +kernel
theorem d_FO_programStart_11 : decode b_FO_programStart 11 = .ok (.goto 11, 3) := by decide +kernel
theorem d_FO_programStart_14 : decode b_FO_programStart 14 = .ok (.aload_n 0, 1) := by decide +kernel
theorem d_FO_programStart_15 : decode b_FO_programStart 15 = .ok (.iload_n 1, 1) := by decide +kernel
theorem d_FO_programStart_16 : decode b_FO_programStart 16 = .ok (.invokevirtual 67, 3) := by decide +kernel
theorem d_FO_programStart_19 : decode b_FO_programStart 19 = .ok (.invokestatic 104, 3) := by decide +kernel
theorem d_FO_programStart_22 : decode b_FO_programStart 22 = .ok (.istore_n 2, 1) := by decide +kernel
theorem d_FO_programStart_23 : decode b_FO_programStart 23 = .ok (.aload_n 0, 1) := by decide +kernel
theorem d_FO_programStart_24 : decode b_FO_programStart 24 = .ok (.bipush 6, 2) := by decide +kernel
theorem d_FO_programStart_26 : decode b_FO_programStart 26 = .ok (.iload_n 2, 1) := by decide +kernel
theorem d_FO_programStart_27 : decode b_FO_programStart 27 = .ok (.invokevirtual 60, 3) := by decide +kernel
theorem d_FO_programStart_30 : decode b_FO_programStart 30 = .ok (.istore_n 3, 1) := by decide +kernel
theorem d_FO_programStart_31 : decode b_FO_programStart 31 = .ok (.iload_n 3, 1) := by decide +kernel
theorem d_FO_programStart_32 : decode b_FO_programStart 32 = .ok (.iconst 0, 1) := by decide +kernel
theorem d_FO_programStart_33 : decode b_FO_programStart 33 = .ok (.invokestatic 64, 3) := by decide +kernel
theorem d_FO_programStart_36 : decode b_FO_programStart 36 = .ok (.sipush 128, 3) := by decide +kernel
theorem d_FO_programStart_39 : decode b_FO_programStart 39 = .ok (.if_icmp .le 10, 3) := by decide +kernel
theorem d_FO_programStart_42 : decode b_FO_programStart 42 = .ok (.iload_n 3, 1) := by decide +kernel
theorem d_FO_programStart_43 : decode b_FO_programStart 43 = .ok (.invokestatic 88, 3) := by decide +kernel
theorem d_FO_programStart_46 : decode b_FO_programStart 46 = .ok (.goto 4, 3) := by decide +kernel
theorem d_FO_programStart_49 : decode b_FO_programStart 49 = .ok (.iload_n 2, 1) := by decide +kernel
theorem d_FO_programStart_50 : decode b_FO_programStart 50 = .ok (.ireturn, 1) := by decide +kernel
set_option maxHeartbeats 4000000 in
set_option maxRecDepth 100000 in
theorem c_FO_programStart (l : Launch) (dC : Nat → ClassId) (dI : Nat → Nat → Nat) (o : Nat) (wa : Nat) (sa : Nat) (la : Nat) (sz : Int32) (sc : Int32) (hv : Int32) (cI : ClassId) (B : Nat → Nat) (w : Nat → Int32) (st : Nat → Int32) (ln : Nat → Int32) (x : Nat) (hF : fm_FO B w st ln) (hV : fm_V B) (hxx : x = 256 ∨ fm_th B x = true) : fm_M l (dC, dI) y_FO_programStart w_FO_programStart ({ frames := 2, cells := 0, slots := 0, locals := 44 }) [.ref o, .int (nI (x))] [(o, .inr (1, [.ref wa, .ref sa, .ref la, .int (nI (fm_HF B 2)), .int (nI (fm_HF B 3)), .int (sz), .int (sc), .int (hv)])), (wa, .inl (cI, 2048, .inl (w))), (sa, .inl (cI, 10, .inl (st))), (la, .inl (cI, 10, .inl (ln)))] [(cI, .int)] ((fm_oI (fm_ps B x))) := by
  refine Met.ofW (cc := b_FO_programStart) (maxL := 4) (ret := (some .int)) (by decide) rfl ?_
  intro pg ev s m args below meth cd s₁ BD hml hv
  obtain ⟨rfl, hP, hK⟩ := hv
  have hx := BD.exec
  have hb := BD.bytes
  have hr := BD.returns
  have hts := atoms_spec (ws := w_FO_programStart) BD.pre
  have ht : ∀ w ∈ fm_T, w.before _ s = true := fun w h => hts w (List.mem_cons_of_mem _ h)
  have hown : s.vm.findClass R_FO = some m.cls := findClass_of_methodNamed BD.named
  have hlocks := BD.notSynchronized
  have S : CallFix pg m cd b_FO_programStart 4 s _ w_FO_programStart R_FO := ⟨hx, hb, hml, hown, hts⟩
  have hl := lv_entry ([.ref o, .int (nI (x))]) (n := 4) (Nat.le_of_ble_eq_true rfl)
  rw [lg_entry_eq]
  generalize (lg_sl ([.ref o, .int (nI (x))]) ++ List.replicate (4 - (lg_sl ([.ref o, .int (nI (x))])).length) Slot.unset).toArray = ls at hl ⊢
  have hl : lv_has ls 4 [(0, .ref o), (1, .int (nI (x)))] := hl
  have hB : ∀ i, B i < 256 := hF.1.1
  obtain ⟨hL, hFw, hFs, hFl⟩ := id hF
  obtain ⟨-, hq, h3, h10⟩ := id hL
  have hx256 : x ≤ 256 := by
    rcases hxx with e | e
    · omega
    · have e2 := fm_th_in e
      omega
  refine fm_join (nL := 4) (q := 23) (LV := [(0, .ref o), (2, .int (fm_oI (fm_so B x)))]) ?_ ?_
  · intro ls hl
    have hl : lv_has ls 4 [(0, .ref o), (2, .int (fm_oI (fm_so B x)))] := hl
    rcases hso : fm_so B x with _ | k
    · rw [hso] at hl
      refine lv_aload_n hx hb d_FO_programStart_23 rfl (lv_at hl 0 rfl) ?_
      refine lv_bipush (v := nI (6)) hx hb d_FO_programStart_24 (by decide) ?_
      refine lv_iload_n hx hb d_FO_programStart_26 rfl (lv_at hl 1 rfl) ?_
      refine fm_cv S (c_FO_word l dC dI o wa sa la sz sc hv cI B w st ln 6 (fm_oI none) (hF) (by decide)) rfl rfl k_FO_word q_1_153 ⟨Nat.le_of_ble_eq_true rfl, Nat.le_of_ble_eq_true rfl⟩ (hP.sub [0, 1, 2, 3] rfl) (hK.sub [0] rfl) 0 rfl rfl rfl hl.1 rfl (Nat.le_of_ble_eq_true rfl) ⟨Nat.zero_le _, Nat.zero_le _⟩ d_FO_programStart_27 ?_
      refine lv_istore_n (lv' := [(3, .int (fm_wd B 6 (fm_oI none))), (0, .ref o), (2, .int (fm_oI none))]) hx hb d_FO_programStart_30 rfl hl (by decide) rfl (fun ls hl => ?_)
      refine lv_iload_n hx hb d_FO_programStart_31 rfl (lv_at hl 0 rfl) ?_
      refine lv_iconst (v := nI (0)) hx hb d_FO_programStart_32 (by decide) ?_
      refine fm_cs S (c_FO_byteOf l dC dI (fm_wd B 6 (fm_oI none)) 0 (by omega)) rfl rfl k_FO_byteOf q_1_189 ⟨Nat.le_of_ble_eq_true rfl, Nat.le_of_ble_eq_true rfl⟩ (hP.sub [] rfl) (hK.sub [] rfl) rfl hl.1 rfl (Nat.le_of_ble_eq_true rfl) ⟨Nat.zero_le _, Nat.zero_le _⟩ d_FO_programStart_33 ?_
      have f0_33 := fm_by_lt (fm_wd B 6 (fm_oI none)) 0
      refine fm_tw (z := nI 0) (by rw [show fm_oI none = -1 from rfl, fm_wd_neg (by decide), show nI 0 = 0 from rfl, fm_by_0]; rfl) ?_
      refine lv_sipush (v := nI (128)) hx hb d_FO_programStart_36 (by decide) ?_
      refine lv_icmp_le (tgt := 49) hx hb d_FO_programStart_39 (by decide) (fun c0 => ?_) (fun c0 => ?_)
      · have c_39 : 0 ≤ 128 := (nI_leI (a := 0) (b := 128) (by omega) (by omega)).mp c0
        refine lv_iload_n hx hb d_FO_programStart_49 rfl (lv_at hl 2 rfl) ?_
        exact W.iret hx hb hr (fun t ht hW => ⟨_, rfl, by rw [fm_ps, hso]; rfl, ht⟩) (fun q hq => by cases hq) d_FO_programStart_50
      · have c_39 : ¬ (0 ≤ 128) := fun z => c0 ((nI_leI (a := 0) (b := 128) (by omega) (by omega)).mpr z)
        exact absurd c_39 (by decide)
    · rw [hso] at hl
      have hkw := fm_V_so hV hxx hso
      have hl : lv_has ls 4 [(0, .ref o), (2, .int (nI k))] := hl
      refine lv_aload_n hx hb d_FO_programStart_23 rfl (lv_at hl 0 rfl) ?_
      refine lv_bipush (v := nI (6)) hx hb d_FO_programStart_24 (by decide) ?_
      refine lv_iload_n hx hb d_FO_programStart_26 rfl (lv_at hl 1 rfl) ?_
      refine fm_cv S (c_FO_wordN l dC dI o wa sa la sz sc hv cI B w st ln 6 k (hF) (by decide) (hkw)) rfl rfl k_FO_word q_1_153 ⟨Nat.le_of_ble_eq_true rfl, Nat.le_of_ble_eq_true rfl⟩ (hP.sub [0, 1, 2, 3] rfl) (hK.sub [0] rfl) 0 rfl rfl rfl hl.1 rfl (Nat.le_of_ble_eq_true rfl) ⟨Nat.zero_le _, Nat.zero_le _⟩ d_FO_programStart_27 ?_
      refine lv_istore_n (lv' := [(3, .int (fm_W B 6 k)), (0, .ref o), (2, .int (nI (k)))]) hx hb d_FO_programStart_30 rfl hl (by decide) rfl (fun ls hl => ?_)
      refine lv_iload_n hx hb d_FO_programStart_31 rfl (lv_at hl 0 rfl) ?_
      refine lv_iconst (v := nI (0)) hx hb d_FO_programStart_32 (by decide) ?_
      refine fm_cs S (c_FO_byteOf l dC dI (fm_W B 6 k) 0 (by omega)) rfl rfl k_FO_byteOf q_1_189 ⟨Nat.le_of_ble_eq_true rfl, Nat.le_of_ble_eq_true rfl⟩ (hP.sub [] rfl) (hK.sub [] rfl) rfl hl.1 rfl (Nat.le_of_ble_eq_true rfl) ⟨Nat.zero_le _, Nat.zero_le _⟩ d_FO_programStart_33 ?_
      refine fm_tw (z := nI (fm_AT B 6 k 0)) (by simp only [fm_by_W hB _ _ (show 0 < 4 by decide), fm_by_W hB _ _ (show 1 < 4 by decide), fm_by_W hB _ _ (show 2 < 4 by decide), fm_by_W hB _ _ (show 3 < 4 by decide)]) ?_
      have f0_33 := fm_AT_lt hB 6 k 0
      refine lv_sipush (v := nI (128)) hx hb d_FO_programStart_36 (by decide) ?_
      refine lv_icmp_le (tgt := 49) hx hb d_FO_programStart_39 (by decide) (fun c0 => ?_) (fun c0 => ?_)
      · have c_39 : fm_AT B 6 k 0 ≤ 128 := (nI_leI (a := fm_AT B 6 k 0) (b := 128) (by omega) (by omega)).mp c0
        refine lv_iload_n hx hb d_FO_programStart_49 rfl (lv_at hl 2 rfl) ?_
        exact W.iret hx hb hr (fun t ht hW => ⟨_, rfl, by rw [fm_ps, hso]; exact congrArg nI (by rw [fm_at0, if_neg (Nat.not_lt.mpr c_39)]), ht⟩) (fun q hq => by cases hq) d_FO_programStart_50
      · have c_39 : ¬ (fm_AT B 6 k 0 ≤ 128) := fun z => c0 ((nI_leI (a := fm_AT B 6 k 0) (b := 128) (by omega) (by omega)).mpr z)
        refine lv_iload_n hx hb d_FO_programStart_42 rfl (lv_at hl 0 rfl) ?_
        refine fm_cs S (c_FO_target l dC dI (fm_W B 6 k) ) rfl rfl k_FO_target q_2_179 ⟨Nat.le_of_ble_eq_true rfl, Nat.le_of_ble_eq_true rfl⟩ (hP.sub [] rfl) (hK.sub [] rfl) rfl hl.1 rfl (Nat.le_of_ble_eq_true rfl) ⟨Nat.zero_le _, Nat.zero_le _⟩ d_FO_programStart_43 ?_
        refine fm_tw (z := nI (256 * fm_AT B 6 k 2 + fm_AT B 6 k 3)) (by simp only [fm_by_W hB _ _ (show 0 < 4 by decide), fm_by_W hB _ _ (show 1 < 4 by decide), fm_by_W hB _ _ (show 2 < 4 by decide), fm_by_W hB _ _ (show 3 < 4 by decide)]) ?_
        have f0_43 := fm_AT_lt hB 6 k 2
        have f1_43 := fm_AT_lt hB 6 k 3
        refine lv_goto (tgt := 50) hx hb d_FO_programStart_46 (by decide) ?_
        exact W.iret hx hb hr (fun t ht hW => ⟨_, rfl, by rw [fm_ps, hso]; exact congrArg nI (by rw [fm_at0, if_pos (Nat.lt_of_not_le c_39)]; rfl), ht⟩) (fun q hq => by cases hq) d_FO_programStart_50
  intro jn_23
  refine lv_iload_n hx hb d_FO_programStart_0 rfl (lv_at hl 1 rfl) ?_
  refine lv_sipush (v := nI (256)) hx hb d_FO_programStart_1 (by decide) ?_
  refine lv_icmp_ne (tgt := 14) hx hb d_FO_programStart_4 (by decide) (fun c0 => ?_) (fun c0 => ?_)
  · have c_4 : ¬ (x = 256) := fun z => c0 ((nI_eq (a := x) (b := 256) (by omega) (by omega)).mpr z)
    refine lv_aload_n hx hb d_FO_programStart_14 rfl (lv_at hl 0 rfl) ?_
    refine lv_iload_n hx hb d_FO_programStart_15 rfl (lv_at hl 1 rfl) ?_
    refine fm_cv S (c_FO_character l dC dI o wa sa la sz sc hv cI B w st ln (nI (x)) (hF)) rfl rfl k_FO_character q_1_149 ⟨Nat.le_of_ble_eq_true rfl, Nat.le_of_ble_eq_true rfl⟩ (hP.sub [0, 1, 2, 3] rfl) (hK.sub [0] rfl) 0 rfl rfl rfl hl.1 rfl (Nat.le_of_ble_eq_true rfl) ⟨Nat.zero_le _, Nat.zero_le _⟩ d_FO_programStart_16 ?_
    refine fm_cs S (c_FO_startOfCharacter l dC dI (fm_ch B (nI (x))) ) rfl rfl k_FO_startOfCharacter q_3_26 ⟨Nat.le_of_ble_eq_true rfl, Nat.le_of_ble_eq_true rfl⟩ (hP.sub [] rfl) (hK.sub [] rfl) rfl hl.1 rfl (Nat.le_of_ble_eq_true rfl) ⟨Nat.zero_le _, Nat.zero_le _⟩ d_FO_programStart_19 ?_
    refine fm_tw (z := (fm_oI (fm_so B x))) (by first | (rw [fm_so, if_pos c_4, fm_ep_o]; done) | (rw [fm_soW hB (hxx.resolve_left c_4) c_4]; done)) ?_
    refine lv_istore_n (lv' := [(2, .int (fm_oI (fm_so B x))), (0, .ref o), (1, .int (nI (x)))]) hx hb d_FO_programStart_22 rfl hl (by decide) rfl (fun ls hl => ?_)
    exact jn_23 ls (lv_sub hl [1, 0] rfl)
  · have c_4 : x = 256 := (nI_eq (a := x) (b := 256) (by omega) (by omega)).mp c0
    refine lv_aload_n hx hb d_FO_programStart_7 rfl (lv_at hl 0 rfl) ?_
    refine fm_cv S (c_FO_edgeStart l dC dI o wa sa la sz sc hv cI B w st ln (hF)) rfl rfl k_FO_edgeStart q_3_25 ⟨Nat.le_of_ble_eq_true rfl, Nat.le_of_ble_eq_true rfl⟩ (hP.sub [0, 1, 2, 3] rfl) (hK.sub [0] rfl) 0 rfl rfl rfl hl.1 rfl (Nat.le_of_ble_eq_true rfl) ⟨Nat.zero_le _, Nat.zero_le _⟩ d_FO_programStart_8 ?_
    refine lv_goto (tgt := 22) hx hb d_FO_programStart_11 (by decide) ?_
    refine fm_tw (z := (fm_oI (fm_so B x))) (by first | (rw [fm_so, if_pos c_4, fm_ep_o]; done) | (rw [fm_soW hB (hxx.resolve_left c_4) c_4]; done)) ?_
    refine lv_istore_n (lv' := [(2, .int (fm_oI (fm_so B x))), (0, .ref o), (1, .int (nI (x)))]) hx hb d_FO_programStart_22 rfl hl (by decide) rfl (fun ls hl => ?_)
    exact jn_23 ls (lv_sub hl [1, 0] rfl)
theorem d_FO_find_0 : decode b_FO_find 0 = .ok (.aload_n 0, 1) := by decide +kernel
theorem d_FO_find_1 : decode b_FO_find 1 = .ok (.iload_n 1, 1) := by decide +kernel
theorem d_FO_find_2 : decode b_FO_find 2 = .ok (.invokevirtual 91, 3) := by decide +kernel
theorem d_FO_find_5 : decode b_FO_find 5 = .ok (.istore_n 3, 1) := by decide +kernel
theorem d_FO_find_6 : decode b_FO_find 6 = .ok (.iload_n 3, 1) := by decide +kernel
theorem d_FO_find_7 : decode b_FO_find 7 = .ok (.ifCond .ge 5, 3) := by decide +kernel
theorem d_FO_find_10 : decode b_FO_find 10 = .ok (.iconst (-1), 1) := by decide +kernel
theorem d_FO_find_11 : decode b_FO_find 11 = .ok (.ireturn, 1) := by decide +kernel
theorem d_FO_find_12 : decode b_FO_find 12 = .ok (.iload_n 2, 1) := by decide +kernel
theorem d_FO_find_13 : decode b_FO_find 13 = .ok (.sipush 256, 3) := by decide +kernel
theorem d_FO_find_16 : decode b_FO_find 16 = .ok (.if_icmp .ne 10, 3) := by decide +kernel
theorem d_FO_find_19 : decode b_FO_find 19 = .ok (.aload_n 0, 1) := by decide +kernel
theorem d_FO_find_20 : decode b_FO_find 20 = .ok (.invokevirtual 94, 3) := by decide +kernel
theorem d_FO_find_23 : decode b_FO_find 23 = .ok (.goto 4, 3) := by decide +kernel
theorem d_FO_find_26 : decode b_FO_find 26 = .ok (.iload_n 2, 1) := by decide +kernel
theorem d_FO_find_27 : decode b_FO_find 27 = .ok (.istore 4, 2) := by decide +kernel
theorem d_FO_find_29 : decode b_FO_find 29 = .ok (.aload_n 0, 1) := by decide +kernel
theorem d_FO_find_30 : decode b_FO_find 30 = .ok (.bipush 6, 2) := by decide +kernel
theorem d_FO_find_32 : decode b_FO_find 32 = .ok (.invokevirtual 85, 3) := by decide +kernel
theorem d_FO_find_35 : decode b_FO_find 35 = .ok (.istore 5, 2) := by decide +kernel
theorem d_FO_find_37 : decode b_FO_find 37 = .ok (.iload_n 3, 1) := by decide +kernel
theorem d_FO_find_38 : decode b_FO_find 38 = .ok (.istore 6, 2) := by decide +kernel
theorem d_FO_find_40 : decode b_FO_find 40 = .ok (.iconst 0, 1) := by decide +kernel
theorem d_FO_find_41 : decode b_FO_find 41 = .ok (.istore 7, 2) := by decide +kernel
theorem d_FO_find_43 : decode b_FO_find 43 = .ok (.iload 7, 2) := by decide +kernel
theorem d_FO_find_45 : decode b_FO_find 45 = .ok (.iload 5, 2) := by decide +kernel
theorem d_FO_find_47 : decode b_FO_find 47 = .ok (.if_icmp .ge 80, 3) := by decide +kernel
theorem d_FO_find_50 : decode b_FO_find 50 = .ok (.iload 6, 2) := by decide +kernel
theorem d_FO_find_52 : decode b_FO_find 52 = .ok (.iload 5, 2) := by decide +kernel
theorem d_FO_find_54 : decode b_FO_find 54 = .ok (.if_icmp .ge 73, 3) := by decide +kernel
theorem d_FO_find_57 : decode b_FO_find 57 = .ok (.aload_n 0, 1) := by decide +kernel
theorem d_FO_find_58 : decode b_FO_find 58 = .ok (.bipush 6, 2) := by decide +kernel
theorem d_FO_find_60 : decode b_FO_find 60 = .ok (.iload 6, 2) := by decide +kernel
theorem d_FO_find_62 : decode b_FO_find 62 = .ok (.invokevirtual 60, 3) := by decide +kernel
theorem d_FO_find_65 : decode b_FO_find 65 = .ok (.istore 8, 2) := by decide +kernel
theorem d_FO_find_67 : decode b_FO_find 67 = .ok (.iload 8, 2) := by decide +kernel
theorem d_FO_find_69 : decode b_FO_find 69 = .ok (.iconst 0, 1) := by decide +kernel
theorem d_FO_find_70 : decode b_FO_find 70 = .ok (.invokestatic 64, 3) := by decide +kernel
theorem d_FO_find_73 : decode b_FO_find 73 = .ok (.istore 9, 2) := by decide +kernel
theorem d_FO_find_75 : decode b_FO_find 75 = .ok (.iload 9, 2) := by decide +kernel
theorem d_FO_find_77 : decode b_FO_find 77 = .ok (.sipush 128, 3) := by decide +kernel
theorem d_FO_find_80 : decode b_FO_find 80 = .ok (.if_icmp .le 5, 3) := by decide +kernel
theorem d_FO_find_83 : decode b_FO_find 83 = .ok (.iconst (-1), 1) := by decide +kernel
theorem d_FO_find_84 : decode b_FO_find 84 = .ok (.ireturn, 1) := by decide +kernel
theorem d_FO_find_85 : decode b_FO_find 85 = .ok (.iload 8, 2) := by decide +kernel
theorem d_FO_find_87 : decode b_FO_find 87 = .ok (.iconst 1, 1) := by decide +kernel
theorem d_FO_find_88 : decode b_FO_find 88 = .ok (.invokestatic 64, 3) := by decide +kernel
theorem d_FO_find_91 : decode b_FO_find 91 = .ok (.iload 4, 2) := by decide +kernel
theorem d_FO_find_93 : decode b_FO_find 93 = .ok (.if_icmp .ne 9, 3) := by decide +kernel
theorem d_FO_find_96 : decode b_FO_find 96 = .ok (.iload 8, 2) := by decide +kernel
theorem d_FO_find_98 : decode b_FO_find 98 = .ok (.invokestatic 98, 3) := by decide +kernel
theorem d_FO_find_101 : decode b_FO_find 101 = .ok (.ireturn, 1) := by decide +kernel
theorem d_FO_find_102 : decode b_FO_find 102 = .ok (.iload 9, 2) := by decide +kernel
theorem d_FO_find_104 : decode b_FO_find 104 = .ok (.sipush 128, 3) := by decide +kernel
theorem d_FO_find_107 : decode b_FO_find 107 = .ok (.if_icmp .ne 5, 3) := by decide +kernel
theorem d_FO_find_110 : decode b_FO_find 110 = .ok (.iconst (-1), 1) := by decide +kernel
theorem d_FO_find_111 : decode b_FO_find 111 = .ok (.ireturn, 1) := by decide +kernel
theorem d_FO_find_112 : decode b_FO_find 112 = .ok (.iload 6, 2) := by decide +kernel
theorem d_FO_find_114 : decode b_FO_find 114 = .ok (.iload 9, 2) := by decide +kernel
theorem d_FO_find_116 : decode b_FO_find 116 = .ok (.iconst 1, 1) := by decide +kernel
theorem d_FO_find_117 : decode b_FO_find 117 = .ok (.iadd, 1) := by decide +kernel
theorem d_FO_find_118 : decode b_FO_find 118 = .ok (.iadd, 1) := by decide +kernel
theorem d_FO_find_119 : decode b_FO_find 119 = .ok (.istore 6, 2) := by decide +kernel
theorem d_FO_find_121 : decode b_FO_find 121 = .ok (.iinc 7 1, 3) := by decide +kernel
theorem d_FO_find_124 : decode b_FO_find 124 = .ok (.goto (-81), 3) := by decide +kernel
theorem d_FO_find_127 : decode b_FO_find 127 = .ok (.iconst (-1), 1) := by decide +kernel
theorem d_FO_find_128 : decode b_FO_find 128 = .ok (.ireturn, 1) := by decide +kernel
set_option maxHeartbeats 4000000 in
set_option maxRecDepth 100000 in
theorem c_FO_find (l : Launch) (dC : Nat → ClassId) (dI : Nat → Nat → Nat) (o : Nat) (wa : Nat) (sa : Nat) (la : Nat) (sz : Int32) (sc : Int32) (hv : Int32) (cI : ClassId) (B : Nat → Nat) (w : Nat → Int32) (st : Nat → Int32) (ln : Nat → Int32) (x : Nat) (r : Nat) (hF : fm_FO B w st ln) (hV : fm_V B) (hxx : x = 256 ∨ fm_th B x = true) (hrr : r ≤ 256) : fm_M l (dC, dI) y_FO_find w_FO_find ({ frames := 3, cells := 0, slots := 0, locals := 67 }) [.ref o, .int (nI (x)), .int (nI (r))] [(o, .inr (1, [.ref wa, .ref sa, .ref la, .int (nI (fm_HF B 2)), .int (nI (fm_HF B 3)), .int (sz), .int (sc), .int (hv)])), (wa, .inl (cI, 2048, .inl (w))), (sa, .inl (cI, 10, .inl (st))), (la, .inl (cI, 10, .inl (ln)))] [(cI, .int)] ((fm_say B x r)) := by
  refine Met.ofW (cc := b_FO_find) (maxL := 10) (ret := (some .int)) (by decide) rfl ?_
  intro pg ev s m args below meth cd s₁ BD hml hv
  obtain ⟨rfl, hP, hK⟩ := hv
  have hx := BD.exec
  have hb := BD.bytes
  have hr := BD.returns
  have hts := atoms_spec (ws := w_FO_find) BD.pre
  have ht : ∀ w ∈ fm_T, w.before _ s = true := fun w h => hts w (List.mem_cons_of_mem _ h)
  have hown : s.vm.findClass R_FO = some m.cls := findClass_of_methodNamed BD.named
  have hlocks := BD.notSynchronized
  have S : CallFix pg m cd b_FO_find 10 s _ w_FO_find R_FO := ⟨hx, hb, hml, hown, hts⟩
  have hl := lv_entry ([.ref o, .int (nI (x)), .int (nI (r))]) (n := 10) (Nat.le_of_ble_eq_true rfl)
  rw [lg_entry_eq]
  generalize (lg_sl ([.ref o, .int (nI (x)), .int (nI (r))]) ++ List.replicate (10 - (lg_sl ([.ref o, .int (nI (x)), .int (nI (r))])).length) Slot.unset).toArray = ls at hl ⊢
  have hl : lv_has ls 10 [(0, .ref o), (1, .int (nI (x))), (2, .int (nI (r)))] := hl
  have hB : ∀ i, B i < 256 := hF.1.1
  obtain ⟨hL, hFw, hFs, hFl⟩ := id hF
  obtain ⟨-, hq, h3, h10⟩ := id hL
  refine lv_aload_n hx hb d_FO_find_0 rfl (lv_at hl 0 rfl) ?_
  refine lv_iload_n hx hb d_FO_find_1 rfl (lv_at hl 1 rfl) ?_
  refine fm_cv S (c_FO_programStart l dC dI o wa sa la sz sc hv cI B w st ln x (hF) (hV) (hxx)) rfl rfl k_FO_programStart q_3_21 ⟨Nat.le_of_ble_eq_true rfl, Nat.le_of_ble_eq_true rfl⟩ (hP.sub [0, 1, 2, 3] rfl) (hK.sub [0] rfl) 0 rfl rfl rfl hl.1 rfl (Nat.le_of_ble_eq_true rfl) ⟨Nat.zero_le _, Nat.zero_le _⟩ d_FO_find_2 ?_
  refine lv_istore_n (lv' := [(3, .int (fm_oI (fm_ps B x))), (0, .ref o), (1, .int (nI (x))), (2, .int (nI (r)))]) hx hb d_FO_find_5 rfl hl (by decide) rfl (fun ls hl => ?_)
  refine lv_iload_n hx hb d_FO_find_6 rfl (lv_at hl 0 rfl) ?_
  refine lv_if_ge (tgt := 12) hx hb d_FO_find_7 (by decide) (fun c0 => ?_) (fun c0 => ?_)
  · have c_7 := c0
    obtain ⟨q0, hq0⟩ := fm_oI_ge (Int32.not_lt.mpr c_7)
    obtain ⟨k, hso, hk0⟩ := Option.map_eq_some_iff.mp hq0
    have hkw := fm_V_so hV hxx hso
    have hqw0 := fm_V_at0 hV hkw
    rw [hk0] at hqw0
    have hl : lv_has ls 10 [(3, .int (nI (q0))), (0, .ref o), (1, .int (nI (x))), (2, .int (nI (r)))] := by rw [show ((fm_oI (fm_ps B x)) : Int32) = nI (q0) from by rw [hq0]; rfl] at hl; exact hl
    refine fm_join (nL := 10) (q := 29) (LV := [(0, .ref o), (3, .int (nI (q0))), (4, .int (fm_oI (fm_no B r)))]) ?_ ?_
    · intro ls hl
      have hl : lv_has ls 10 [(0, .ref o), (3, .int (nI (q0))), (4, .int (fm_oI (fm_no B r)))] := hl
      refine lv_aload_n hx hb d_FO_find_29 rfl (lv_at hl 0 rfl) ?_
      refine lv_bipush (v := nI (6)) hx hb d_FO_find_30 (by decide) ?_
      refine fm_cv S (c_FO_lengthOfN l dC dI o wa sa la sz sc hv cI B w st ln 6 (hF) (by omega)) rfl rfl k_FO_lengthOf q_2_178 ⟨Nat.le_of_ble_eq_true rfl, Nat.le_of_ble_eq_true rfl⟩ (hP.sub [0, 1, 2, 3] rfl) (hK.sub [0] rfl) 0 rfl rfl rfl hl.1 rfl (Nat.le_of_ble_eq_true rfl) ⟨Nat.zero_le _, Nat.zero_le _⟩ d_FO_find_32 ?_
      have f0_32 := fm_WD_le hB 6
      refine lv_istore (lv' := [(5, .int (nI (fm_WD B 6))), (0, .ref o), (3, .int (nI (q0))), (4, .int (fm_oI (fm_no B r)))]) hx hb d_FO_find_35 hl (by decide) rfl (fun ls hl => ?_)
      refine lv_iload_n hx hb d_FO_find_37 rfl (lv_at hl 2 rfl) ?_
      refine lv_istore (lv' := [(6, .int (nI (q0))), (5, .int (nI (fm_WD B 6))), (0, .ref o), (3, .int (nI (q0))), (4, .int (fm_oI (fm_no B r)))]) hx hb d_FO_find_38 hl (by decide) rfl (fun ls hl => ?_)
      refine lv_iconst (v := nI (0)) hx hb d_FO_find_40 (by decide) ?_
      refine lv_istore (lv' := [(7, .int (nI (0))), (6, .int (nI (q0))), (5, .int (nI (fm_WD B 6))), (0, .ref o), (3, .int (nI (q0))), (4, .int (fm_oI (fm_no B r)))]) hx hb d_FO_find_41 hl (by decide) rfl (fun ls hl => ?_)
      refine fm_loop2 (LV := fun (q : Nat) (t : Nat) => [(0, .ref o), (4, .int (fm_oI (fm_no B r))), (5, .int (nI (fm_WD B 6))), (6, .int (nI (q))), (7, .int (nI (t)))]) (I := fun (q : Nat) (t : Nat) => q < fm_WD B 6 ∧ t ≤ q ∧ (fm_no B r).bind (fun nx => fm_seek B nx (fm_WD B 6 - q) q) = fm_fd B x r) (μ := fun (q : Nat) (t : Nat) => fm_WD B 6 - q) ?_ q0 0 (⟨hqw0, Nat.zero_le _, by rw [fm_fd, hso]; cases fm_no B r with | none => rfl | some nx => rw [← hk0]; rfl⟩) ls (lv_sub hl [3, 5, 2, 1, 0] rfl)
      intro q t hI_43 ih_43 ls hl
      have hl : lv_has ls 10 [(0, .ref o), (4, .int (fm_oI (fm_no B r))), (5, .int (nI (fm_WD B 6))), (6, .int (nI (q))), (7, .int (nI (t)))] := hl
      obtain ⟨hqw, htq, hsk⟩ := hI_43
      have hw6 := fm_WD_le hB 6
      refine lv_iload hx hb d_FO_find_43 (lv_at hl 4 rfl) ?_
      refine lv_iload hx hb d_FO_find_45 (lv_at hl 2 rfl) ?_
      refine lv_icmp_ge (tgt := 127) hx hb d_FO_find_47 (by decide) (fun c0 => ?_) (fun c0 => ?_)
      · have c_47 : fm_WD B 6 ≤ t := (nI_leI (a := fm_WD B 6) (b := t) (by omega) (by omega)).mp c0
        exact absurd c_47 (by omega)
      · have c_47 : ¬ (fm_WD B 6 ≤ t) := fun z => c0 ((nI_leI (a := fm_WD B 6) (b := t) (by omega) (by omega)).mpr z)
        refine lv_iload hx hb d_FO_find_50 (lv_at hl 3 rfl) ?_
        refine lv_iload hx hb d_FO_find_52 (lv_at hl 2 rfl) ?_
        refine lv_icmp_ge (tgt := 127) hx hb d_FO_find_54 (by decide) (fun c0 => ?_) (fun c0 => ?_)
        · have c_54 : fm_WD B 6 ≤ q := (nI_leI (a := fm_WD B 6) (b := q) (by omega) (by omega)).mp c0
          exact absurd c_54 (by omega)
        · have c_54 : ¬ (fm_WD B 6 ≤ q) := fun z => c0 ((nI_leI (a := fm_WD B 6) (b := q) (by omega) (by omega)).mpr z)
          refine lv_aload_n hx hb d_FO_find_57 rfl (lv_at hl 0 rfl) ?_
          refine lv_bipush (v := nI (6)) hx hb d_FO_find_58 (by decide) ?_
          refine lv_iload hx hb d_FO_find_60 (lv_at hl 3 rfl) ?_
          refine fm_cv S (c_FO_wordN l dC dI o wa sa la sz sc hv cI B w st ln 6 q (hF) (by decide) (hqw)) rfl rfl k_FO_word q_1_153 ⟨Nat.le_of_ble_eq_true rfl, Nat.le_of_ble_eq_true rfl⟩ (hP.sub [0, 1, 2, 3] rfl) (hK.sub [0] rfl) 0 rfl rfl rfl hl.1 rfl (Nat.le_of_ble_eq_true rfl) ⟨Nat.zero_le _, Nat.zero_le _⟩ d_FO_find_62 ?_
          refine lv_istore (lv' := [(8, .int (fm_W B 6 q)), (0, .ref o), (4, .int (fm_oI (fm_no B r))), (5, .int (nI (fm_WD B 6))), (6, .int (nI (q))), (7, .int (nI (t)))]) hx hb d_FO_find_65 hl (by decide) rfl (fun ls hl => ?_)
          refine lv_iload hx hb d_FO_find_67 (lv_at hl 0 rfl) ?_
          refine lv_iconst (v := nI (0)) hx hb d_FO_find_69 (by decide) ?_
          refine fm_cs S (c_FO_byteOf l dC dI (fm_W B 6 q) 0 (by omega)) rfl rfl k_FO_byteOf q_1_189 ⟨Nat.le_of_ble_eq_true rfl, Nat.le_of_ble_eq_true rfl⟩ (hP.sub [] rfl) (hK.sub [] rfl) rfl hl.1 rfl (Nat.le_of_ble_eq_true rfl) ⟨Nat.zero_le _, Nat.zero_le _⟩ d_FO_find_70 ?_
          refine fm_tw (z := nI (fm_AT B 6 q 0)) (by simp only [fm_by_W hB _ _ (show 0 < 4 by decide), fm_by_W hB _ _ (show 1 < 4 by decide), fm_by_W hB _ _ (show 2 < 4 by decide), fm_by_W hB _ _ (show 3 < 4 by decide)]) ?_
          have f0_70 := fm_AT_lt hB 6 q 0
          refine lv_istore (lv' := [(9, .int (nI (fm_AT B 6 q 0))), (8, .int (fm_W B 6 q)), (0, .ref o), (4, .int (fm_oI (fm_no B r))), (5, .int (nI (fm_WD B 6))), (6, .int (nI (q))), (7, .int (nI (t)))]) hx hb d_FO_find_73 hl (by decide) rfl (fun ls hl => ?_)
          refine lv_iload hx hb d_FO_find_75 (lv_at hl 0 rfl) ?_
          refine lv_sipush (v := nI (128)) hx hb d_FO_find_77 (by decide) ?_
          refine lv_icmp_le (tgt := 85) hx hb d_FO_find_80 (by decide) (fun c0 => ?_) (fun c0 => ?_)
          · have c_80 : fm_AT B 6 q 0 ≤ 128 := (nI_leI (a := fm_AT B 6 q 0) (b := 128) (by omega) (by omega)).mp c0
            refine lv_iload hx hb d_FO_find_85 (lv_at hl 1 rfl) ?_
            refine lv_iconst (v := nI (1)) hx hb d_FO_find_87 (by decide) ?_
            refine fm_cs S (c_FO_byteOf l dC dI (fm_W B 6 q) 1 (by omega)) rfl rfl k_FO_byteOf q_1_189 ⟨Nat.le_of_ble_eq_true rfl, Nat.le_of_ble_eq_true rfl⟩ (hP.sub [] rfl) (hK.sub [] rfl) rfl hl.1 rfl (Nat.le_of_ble_eq_true rfl) ⟨Nat.zero_le _, Nat.zero_le _⟩ d_FO_find_88 ?_
            refine fm_tw (z := nI (fm_AT B 6 q 1)) (by simp only [fm_by_W hB _ _ (show 0 < 4 by decide), fm_by_W hB _ _ (show 1 < 4 by decide), fm_by_W hB _ _ (show 2 < 4 by decide), fm_by_W hB _ _ (show 3 < 4 by decide)]) ?_
            have f0_88 := fm_AT_lt hB 6 q 1
            refine lv_iload hx hb d_FO_find_91 (lv_at hl 3 rfl) ?_
            refine lv_icmp_ne (tgt := 102) hx hb d_FO_find_93 (by decide) (fun c0 => ?_) (fun c0 => ?_)
            · have c_93 := c0
              refine lv_iload hx hb d_FO_find_102 (lv_at hl 0 rfl) ?_
              refine lv_sipush (v := nI (128)) hx hb d_FO_find_104 (by decide) ?_
              refine lv_icmp_ne (tgt := 112) hx hb d_FO_find_107 (by decide) (fun c0 => ?_) (fun c0 => ?_)
              · have c_107 : ¬ (fm_AT B 6 q 0 = 128) := fun z => c0 ((nI_eq (a := fm_AT B 6 q 0) (b := 128) (by omega) (by omega)).mpr z)
                refine lv_iload hx hb d_FO_find_112 (lv_at hl 5 rfl) ?_
                refine lv_iload hx hb d_FO_find_114 (lv_at hl 0 rfl) ?_
                refine lv_iconst (v := nI (1)) hx hb d_FO_find_116 (by decide) ?_
                refine lv_iadd hx hb d_FO_find_117 ?_
                refine fm_tw (z := nI (fm_AT B 6 q 0 + 1)) (nI_add _ _) ?_
                refine lv_iadd hx hb d_FO_find_118 ?_
                refine fm_tw (z := nI (q + fm_AT B 6 q 0 + 1)) (nI_add _ _) ?_
                refine lv_istore (lv' := [(6, .int (nI (q + fm_AT B 6 q 0 + 1))), (9, .int (nI (fm_AT B 6 q 0))), (8, .int (fm_W B 6 q)), (0, .ref o), (4, .int (fm_oI (fm_no B r))), (5, .int (nI (fm_WD B 6))), (7, .int (nI (t)))]) hx hb d_FO_find_119 hl (by decide) rfl (fun ls hl => ?_)
                refine lv_iinc (v := nI (t + 1)) (lv' := [(7, .int (nI (t + 1))), (6, .int (nI (q + fm_AT B 6 q 0 + 1))), (9, .int (nI (fm_AT B 6 q 0))), (8, .int (fm_W B 6 q)), (0, .ref o), (4, .int (fm_oI (fm_no B r))), (5, .int (nI (fm_WD B 6)))]) hx hb d_FO_find_121 hl (k := 6) rfl (nI_1 _) (by decide) rfl (fun ls hl => ?_)
                refine lv_goto (tgt := 43) hx hb d_FO_find_124 (by decide) ?_
                exact ih_43 (q + fm_AT B 6 q 0 + 1) (t + 1) ls (⟨fm_V_next hV hqw (by omega), by omega, by rw [← hsk]; cases hno : fm_no B r with | none => rfl | some nx => show fm_seek B nx _ _ = fm_seek B nx _ _; rw [fm_seek_s hV hqw (nx := nx), if_neg (by omega), if_neg (fun z => c_93 (by rw [hno, z]; rfl)), if_neg c_107]⟩) (by omega) (lv_sub hl [4, 5, 6, 1, 0] rfl)
              · have c_107 : fm_AT B 6 q 0 = 128 := (nI_eq (a := fm_AT B 6 q 0) (b := 128) (by omega) (by omega)).mp c0
                refine lv_iconst (v := ((-1))) hx hb d_FO_find_110 (by decide) ?_
                exact W.iret hx hb hr (fun t ht hW => ⟨_, rfl, by rw [fm_say, ← hsk]; cases hno : fm_no B r with | none => rfl | some nx => show _ = fm_oI (Option.map _ (fm_seek B nx _ _)); rw [fm_seek_s hV hqw (nx := nx), if_neg (by omega), if_neg (fun z => c_93 (by rw [hno, z]; rfl)), if_pos c_107]; rfl, ht⟩) (fun q hq => by cases hq) d_FO_find_111
            · have c_93 := c0
              refine lv_iload hx hb d_FO_find_96 (lv_at hl 1 rfl) ?_
              refine fm_cs S (c_FO_saying l dC dI (fm_W B 6 q) ) rfl rfl k_FO_saying q_3_32 ⟨Nat.le_of_ble_eq_true rfl, Nat.le_of_ble_eq_true rfl⟩ (hP.sub [] rfl) (hK.sub [] rfl) rfl hl.1 rfl (Nat.le_of_ble_eq_true rfl) ⟨Nat.zero_le _, Nat.zero_le _⟩ d_FO_find_98 ?_
              refine fm_tw (z := nI (256 * fm_AT B 6 q 2 + fm_AT B 6 q 3)) (by simp only [fm_by_W hB _ _ (show 0 < 4 by decide), fm_by_W hB _ _ (show 1 < 4 by decide), fm_by_W hB _ _ (show 2 < 4 by decide), fm_by_W hB _ _ (show 3 < 4 by decide)]) ?_
              have f0_98 := fm_AT_lt hB 6 q 2
              have f1_98 := fm_AT_lt hB 6 q 3
              exact W.iret hx hb hr (fun t ht hW => ⟨_, rfl, by rw [fm_say, ← hsk, fm_oI_eq (by omega) (fm_no_lt hB hrr) c_93]; show _ = fm_oI (Option.map _ (fm_seek B _ _ _)); rw [fm_seek_s hV hqw, if_neg (by omega), if_pos rfl]; rfl, ht⟩) (fun q hq => by cases hq) d_FO_find_101
          · have c_80 : ¬ (fm_AT B 6 q 0 ≤ 128) := fun z => c0 ((nI_leI (a := fm_AT B 6 q 0) (b := 128) (by omega) (by omega)).mpr z)
            refine lv_iconst (v := ((-1))) hx hb d_FO_find_83 (by decide) ?_
            exact W.iret hx hb hr (fun t ht hW => ⟨_, rfl, by rw [fm_say, ← hsk]; cases fm_no B r with | none => rfl | some nx => show _ = fm_oI (Option.map _ (fm_seek B nx _ _)); rw [fm_seek_s hV hqw (nx := nx), if_pos (Nat.lt_of_not_le c_80)]; rfl, ht⟩) (fun q hq => by cases hq) d_FO_find_84
    intro jn_29
    refine lv_iload_n hx hb d_FO_find_12 rfl (lv_at hl 3 rfl) ?_
    refine lv_sipush (v := nI (256)) hx hb d_FO_find_13 (by decide) ?_
    refine lv_icmp_ne (tgt := 26) hx hb d_FO_find_16 (by decide) (fun c0 => ?_) (fun c0 => ?_)
    · have c_16 : ¬ (r = 256) := fun z => c0 ((nI_eq (a := r) (b := 256) (by omega) (by omega)).mpr z)
      refine lv_iload_n hx hb d_FO_find_26 rfl (lv_at hl 3 rfl) ?_
      refine fm_tw (z := (fm_oI (fm_no B r))) (by first | (rw [fm_no, if_pos c_16, fm_eg_o]; done) | (rw [fm_no, if_neg c_16]; rfl)) ?_
      refine lv_istore (lv' := [(4, .int (fm_oI (fm_no B r))), (3, .int (nI (q0))), (0, .ref o), (1, .int (nI (x))), (2, .int (nI (r)))]) hx hb d_FO_find_27 hl (by decide) rfl (fun ls hl => ?_)
      exact jn_29 ls (lv_sub hl [2, 1, 0] rfl)
    · have c_16 : r = 256 := (nI_eq (a := r) (b := 256) (by omega) (by omega)).mp c0
      refine lv_aload_n hx hb d_FO_find_19 rfl (lv_at hl 1 rfl) ?_
      refine fm_cv S (c_FO_edge l dC dI o wa sa la sz sc hv cI B w st ln (hF)) rfl rfl k_FO_edge q_3_31 ⟨Nat.le_of_ble_eq_true rfl, Nat.le_of_ble_eq_true rfl⟩ (hP.sub [0, 1, 2, 3] rfl) (hK.sub [0] rfl) 0 rfl rfl rfl hl.1 rfl (Nat.le_of_ble_eq_true rfl) ⟨Nat.zero_le _, Nat.zero_le _⟩ d_FO_find_20 ?_
      refine lv_goto (tgt := 27) hx hb d_FO_find_23 (by decide) ?_
      refine fm_tw (z := (fm_oI (fm_no B r))) (by first | (rw [fm_no, if_pos c_16, fm_eg_o]; done) | (rw [fm_no, if_neg c_16]; rfl)) ?_
      refine lv_istore (lv' := [(4, .int (fm_oI (fm_no B r))), (3, .int (nI (q0))), (0, .ref o), (1, .int (nI (x))), (2, .int (nI (r)))]) hx hb d_FO_find_27 hl (by decide) rfl (fun ls hl => ?_)
      exact jn_29 ls (lv_sub hl [2, 1, 0] rfl)
  · have c_7 := c0
    have hnone := fm_oI_lt (N := 65536) (fun {k} hk => by obtain ⟨k2, h2, rfl⟩ := Option.map_eq_some_iff.mp hk; have h5 := fm_V_at0 hV (fm_V_so hV hxx h2); have h6 := fm_WD_le hB 6; exact ⟨by omega, by decide⟩) (Int32.not_le.mp c_7)
    refine lv_iconst (v := ((-1))) hx hb d_FO_find_10 (by decide) ?_
    exact W.iret hx hb hr (fun t ht hW => ⟨_, rfl, by rw [fm_say, fm_fd, Option.map_eq_none_iff.mp hnone]; rfl, ht⟩) (fun q hq => by cases hq) d_FO_find_11
theorem d_FO_kern_0 : decode b_FO_kern 0 = .ok (.aload_n 0, 1) := by decide +kernel
theorem d_FO_kern_1 : decode b_FO_kern 1 = .ok (.aload_n 0, 1) := by decide +kernel
theorem d_FO_kern_2 : decode b_FO_kern 2 = .ok (.bipush 7, 2) := by decide +kernel
theorem d_FO_kern_4 : decode b_FO_kern 4 = .ok (.iload_n 1, 1) := by decide +kernel
theorem d_FO_kern_5 : decode b_FO_kern 5 = .ok (.invokevirtual 60, 3) := by decide +kernel
theorem d_FO_kern_8 : decode b_FO_kern 8 = .ok (.invokevirtual 73, 3) := by decide +kernel
theorem d_FO_kern_11 : decode b_FO_kern 11 = .ok (.ireturn, 1) := by decide +kernel
set_option maxHeartbeats 4000000 in
set_option maxRecDepth 100000 in
theorem c_FO_kern (l : Launch) (dC : Nat → ClassId) (dI : Nat → Nat → Nat) (o : Nat) (wa : Nat) (sa : Nat) (la : Nat) (sz : Int32) (s0 : Nat) (cI : ClassId) (B : Nat → Nat) (w : Nat → Int32) (st : Nat → Int32) (ln : Nat → Int32) (k : Nat) (hF : fm_FO B w st ln) (hs : s0 < 134217728) (hk : k < fm_WD B 7) : fm_M l (dC, dI) y_FO_kern w_FO_kern ({ frames := 2, cells := 0, slots := 0, locals := 46 }) [.ref o, .int (nI (k))] [(o, .inr (1, [.ref wa, .ref sa, .ref la, .int (nI (fm_HF B 2)), .int (nI (fm_HF B 3)), .int (sz), .int (nI (fm_z s0)), .int (nI (fm_h s0))])), (wa, .inl (cI, 2048, .inl (w))), (sa, .inl (cI, 10, .inl (st))), (la, .inl (cI, 10, .inl (ln)))] [(cI, .int)] ((fm_sc B s0 7 k)) := by
  refine Met.ofW (cc := b_FO_kern) (maxL := 2) (ret := (some .int)) (by decide) rfl ?_
  intro pg ev s m args below meth cd s₁ BD hml hv
  obtain ⟨rfl, hP, hK⟩ := hv
  have hx := BD.exec
  have hb := BD.bytes
  have hr := BD.returns
  have hts := atoms_spec (ws := w_FO_kern) BD.pre
  have ht : ∀ w ∈ fm_T, w.before _ s = true := fun w h => hts w (List.mem_cons_of_mem _ h)
  have hown : s.vm.findClass R_FO = some m.cls := findClass_of_methodNamed BD.named
  have hlocks := BD.notSynchronized
  have S : CallFix pg m cd b_FO_kern 2 s _ w_FO_kern R_FO := ⟨hx, hb, hml, hown, hts⟩
  have hl := lv_entry ([.ref o, .int (nI (k))]) (n := 2) (Nat.le_of_ble_eq_true rfl)
  rw [lg_entry_eq]
  generalize (lg_sl ([.ref o, .int (nI (k))]) ++ List.replicate (2 - (lg_sl ([.ref o, .int (nI (k))])).length) Slot.unset).toArray = ls at hl ⊢
  have hl : lv_has ls 2 [(0, .ref o), (1, .int (nI (k)))] := hl
  have hB : ∀ i, B i < 256 := hF.1.1
  obtain ⟨hL, hFw, hFs, hFl⟩ := id hF
  obtain ⟨-, hq, h3, h10⟩ := id hL
  refine lv_aload_n hx hb d_FO_kern_0 rfl (lv_at hl 0 rfl) ?_
  refine lv_aload_n hx hb d_FO_kern_1 rfl (lv_at hl 0 rfl) ?_
  refine lv_bipush (v := nI (7)) hx hb d_FO_kern_2 (by decide) ?_
  refine lv_iload_n hx hb d_FO_kern_4 rfl (lv_at hl 1 rfl) ?_
  refine fm_cv S (c_FO_wordN l dC dI o wa sa la sz (nI (fm_z s0)) (nI (fm_h s0)) cI B w st ln 7 k (hF) (by decide) (hk)) rfl rfl k_FO_word q_1_153 ⟨Nat.le_of_ble_eq_true rfl, Nat.le_of_ble_eq_true rfl⟩ (hP.sub [0, 1, 2, 3] rfl) (hK.sub [0] rfl) 0 rfl rfl rfl hl.1 rfl (Nat.le_of_ble_eq_true rfl) ⟨Nat.zero_le _, Nat.zero_le _⟩ d_FO_kern_5 ?_
  refine fm_cv S (c_FO_scaled l dC dI o wa sa la sz s0 cI B w st ln 7 k (hB) (hs)) rfl rfl k_FO_scaled q_1_184 ⟨Nat.le_of_ble_eq_true rfl, Nat.le_of_ble_eq_true rfl⟩ (hP.sub [0, 1, 2, 3] rfl) (hK.sub [0] rfl) 0 rfl rfl rfl hl.1 rfl (Nat.le_of_ble_eq_true rfl) ⟨Nat.zero_le _, Nat.zero_le _⟩ d_FO_kern_8 ?_
  exact W.iret hx hb hr (fun t ht hW => ⟨_, rfl, rfl, ht⟩) (fun q hq => by cases hq) d_FO_kern_11
