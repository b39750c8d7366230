theorem d_FO_lengthByNumbers_0 : decode b_FO_lengthByNumbers 0 = .ok (.iload_n 1, 1) := by decide +kernel
theorem d_FO_lengthByNumbers_1 : decode b_FO_lengthByNumbers 1 = .ok (.ifCond .ne 9, 3) := by decide +kernel
theorem d_FO_lengthByNumbers_4 : decode b_FO_lengthByNumbers 4 = .ok (.aload_n 0, 1) := by decide +kernel
theorem d_FO_lengthByNumbers_5 : decode b_FO_lengthByNumbers 5 = .ok (.iconst 1, 1) := by decide +kernel
theorem d_FO_lengthByNumbers_6 : decode b_FO_lengthByNumbers 6 = .ok (.invokevirtual 35, 3) := by decide +kernel
theorem d_FO_lengthByNumbers_9 : decode b_FO_lengthByNumbers 9 = .ok (.ireturn, 1) := by decide +kernel
theorem d_FO_lengthByNumbers_10 : decode b_FO_lengthByNumbers 10 = .ok (.iload_n 1, 1) := by decide +kernel
theorem d_FO_lengthByNumbers_11 : decode b_FO_lengthByNumbers 11 = .ok (.iconst 1, 1) := by decide +kernel
theorem d_FO_lengthByNumbers_12 : decode b_FO_lengthByNumbers 12 = .ok (.if_icmp .ne 15, 3) := by decide +kernel
theorem d_FO_lengthByNumbers_15 : decode b_FO_lengthByNumbers 15 = .ok (.aload_n 0, 1) := by decide +kernel
theorem d_FO_lengthByNumbers_16 : decode b_FO_lengthByNumbers 16 = .ok (.getfield 43, 3) := by decide +kernel
theorem d_FO_lengthByNumbers_19 : decode b_FO_lengthByNumbers 19 = .ok (.aload_n 0, 1) := by decide +kernel
theorem d_FO_lengthByNumbers_20 : decode b_FO_lengthByNumbers 20 = .ok (.getfield 39, 3) := by decide +kernel
theorem d_FO_lengthByNumbers_23 : decode b_FO_lengthByNumbers 23 = .ok (.isub, 1) := by decide +kernel
theorem d_FO_lengthByNumbers_24 : decode b_FO_lengthByNumbers 24 = .ok (.iconst 1, 1) := by decide +kernel
theorem d_FO_lengthByNumbers_25 : decode b_FO_lengthByNumbers 25 = .ok (.iadd, 1) := by decide +kernel
theorem d_FO_lengthByNumbers_26 : decode b_FO_lengthByNumbers 26 = .ok (.ireturn, 1) := by decide +kernel
theorem d_FO_lengthByNumbers_27 : decode b_FO_lengthByNumbers 27 = .ok (.aload_n 0, 1) := by decide +kernel
theorem d_FO_lengthByNumbers_28 : decode b_FO_lengthByNumbers 28 = .ok (.iconst 4, 1) := by decide +kernel
theorem d_FO_lengthByNumbers_29 : decode b_FO_lengthByNumbers 29 = .ok (.iload_n 1, 1) := by decide +kernel
theorem d_FO_lengthByNumbers_30 : decode b_FO_lengthByNumbers 30 = .ok (.iadd, 1) := by decide +kernel
theorem d_FO_lengthByNumbers_31 : decode b_FO_lengthByNumbers 31 = .ok (.iconst 2, 1) := by decide +kernel
theorem d_FO_lengthByNumbers_32 : decode b_FO_lengthByNumbers 32 = .ok (.isub, 1) := by decide +kernel
theorem d_FO_lengthByNumbers_33 : decode b_FO_lengthByNumbers 33 = .ok (.invokevirtual 35, 3) := by decide +kernel
theorem d_FO_lengthByNumbers_36 : decode b_FO_lengthByNumbers 36 = .ok (.ireturn, 1) := by decide +kernel
set_option maxHeartbeats 4000000 in
set_option maxRecDepth 100000 in
theorem c_FO_lengthByNumbers (l : Launch) (dC : Nat → ClassId) (dI : Nat → Nat → Nat) (o : Nat) (wa : Nat) (sa : Nat) (la : Nat) (sz : Int32) (sc : Int32) (hv : Int32) (cI : ClassId) (w : Nat → Int32) (st : Nat → Int32) (ln : Nat → Int32) (p : Nat) (hp : p < 10) : fm_M l (dC, dI) y_FO_lengthByNumbers w_FO_lengthByNumbers ({ frames := 1, cells := 0, slots := 0, locals := 23 }) [.ref o, .int (nI (p))] [(o, .inr (1, [.ref wa, .ref sa, .ref la, .int (nI (fm_nb w 2)), .int (nI (fm_nb w 3)), .int (sz), .int (sc), .int (hv)])), (wa, .inl (cI, 2048, .inl (w))), (sa, .inl (cI, 10, .inl (st))), (la, .inl (cI, 10, .inl (ln)))] [(cI, .int)] ((fm_ln w p)) := by
  refine Met.ofW (cc := b_FO_lengthByNumbers) (maxL := 2) (ret := (some .int)) (by decide) rfl ?_
  intro pg ev s m args below meth cd s₁ BD hml hv
  obtain ⟨rfl, hP, hK⟩ := hv
  have hx := BD.exec
  have hb := BD.bytes
  have hr := BD.returns
  have hts := atoms_spec (ws := w_FO_lengthByNumbers) BD.pre
  have ht : ∀ w ∈ fm_T, w.before _ s = true := fun w h => hts w (List.mem_cons_of_mem _ h)
  have hown : s.vm.findClass R_FO = some m.cls := findClass_of_methodNamed BD.named
  have hlocks := BD.notSynchronized
  have S : CallFix pg m cd b_FO_lengthByNumbers 2 s _ w_FO_lengthByNumbers R_FO := ⟨hx, hb, hml, hown, hts⟩
  have hl := lv_entry ([.ref o, .int (nI (p))]) (n := 2) (Nat.le_of_ble_eq_true rfl)
  rw [lg_entry_eq]
  generalize (lg_sl ([.ref o, .int (nI (p))]) ++ List.replicate (2 - (lg_sl ([.ref o, .int (nI (p))])).length) Slot.unset).toArray = ls at hl ⊢
  have hl : lv_has ls 2 [(0, .ref o), (1, .int (nI (p)))] := hl
  refine lv_iload_n hx hb d_FO_lengthByNumbers_0 rfl (lv_at hl 1 rfl) ?_
  refine lv_if_ne (tgt := 10) hx hb d_FO_lengthByNumbers_1 (by decide) (fun c0 => ?_) (fun c0 => ?_)
  · have c_1 : ¬ (p = 0) := fun z => c0 ((nI_eq (a := p) (b := 0) (by omega) (by omega)).mpr z)
    refine lv_iload_n hx hb d_FO_lengthByNumbers_10 rfl (lv_at hl 1 rfl) ?_
    refine lv_iconst (v := nI (1)) hx hb d_FO_lengthByNumbers_11 (by decide) ?_
    refine lv_icmp_ne (tgt := 27) hx hb d_FO_lengthByNumbers_12 (by decide) (fun c0 => ?_) (fun c0 => ?_)
    · have c_12 : ¬ (p = 1) := fun z => c0 ((nI_eq (a := p) (b := 1) (by omega) (by omega)).mpr z)
      refine lv_aload_n hx hb d_FO_lengthByNumbers_27 rfl (lv_at hl 0 rfl) ?_
      refine lv_iconst (v := nI (4)) hx hb d_FO_lengthByNumbers_28 (by decide) ?_
      refine lv_iload_n hx hb d_FO_lengthByNumbers_29 rfl (lv_at hl 1 rfl) ?_
      refine lv_iadd hx hb d_FO_lengthByNumbers_30 ?_
      refine fm_tw (z := nI (4 + p)) (nI_add _ _) ?_
      refine lv_iconst (v := nI (2)) hx hb d_FO_lengthByNumbers_31 (by decide) ?_
      refine lv_isub hx hb d_FO_lengthByNumbers_32 ?_
      refine fm_tw (z := nI (4 + p - 2)) (pk_sub (by omega)) ?_
      refine fm_cv S (c_FO_number l dC dI o wa sa la (nI (fm_nb w 2)) (nI (fm_nb w 3)) sz sc hv cI w st ln (4 + p - 2) (by omega)) rfl rfl k_FO_number q_2_39 ⟨Nat.le_of_ble_eq_true rfl, Nat.le_of_ble_eq_true rfl⟩ (hP.sub [0, 1, 2, 3] rfl) (hK.sub [0] rfl) 0 rfl rfl rfl hl.1 rfl (Nat.le_of_ble_eq_true rfl) ⟨Nat.zero_le _, Nat.zero_le _⟩ d_FO_lengthByNumbers_33 ?_
      have f0_33 := fm_nb_lt w (4 + p - 2)
      exact W.iret hx hb hr (fun t ht hW => ⟨_, rfl, by rw [fm_ln, if_neg c_1, if_neg c_12, show 4 + p - 2 = p + 2 by omega], ht⟩) (fun q hq => by cases hq) d_FO_lengthByNumbers_36
    · have c_12 : p = 1 := (nI_eq (a := p) (b := 1) (by omega) (by omega)).mp c0
      refine lv_aload_n hx hb d_FO_lengthByNumbers_15 rfl (lv_at hl 0 rfl) ?_
      refine va_get (D := (dC, dI)) (ci := 1) (v := .int (nI (fm_nb w 3))) (C := R_FO) (T := F_FO) (N := 8) hx hb ht i_FO hown hK hP 0 rfl rfl 4 (by decide) (ht _ q_1_76) (fun _ h9 => h9) rfl d_FO_lengthByNumbers_16 ?_
      refine lv_aload_n hx hb d_FO_lengthByNumbers_19 rfl (lv_at hl 0 rfl) ?_
      refine va_get (D := (dC, dI)) (ci := 1) (v := .int (nI (fm_nb w 2))) (C := R_FO) (T := F_FO) (N := 8) hx hb ht i_FO hown hK hP 0 rfl rfl 3 (by decide) (ht _ q_1_73) (fun _ h9 => h9) rfl d_FO_lengthByNumbers_20 ?_
      refine lv_isub hx hb d_FO_lengthByNumbers_23 ?_
      refine fm_tw (z := (nI (fm_nb w 3) - nI (fm_nb w 2))) (rfl) ?_
      refine lv_iconst (v := nI (1)) hx hb d_FO_lengthByNumbers_24 (by decide) ?_
      refine lv_iadd hx hb d_FO_lengthByNumbers_25 ?_
      refine fm_tw (z := (nI (fm_nb w 3) - nI (fm_nb w 2) + nI 1)) (rfl) ?_
      exact W.iret hx hb hr (fun t ht hW => ⟨_, rfl, by rw [fm_ln, if_neg c_1, if_pos c_12], ht⟩) (fun q hq => by cases hq) d_FO_lengthByNumbers_26
  · have c_1 : p = 0 := (nI_eq (a := p) (b := 0) (by omega) (by omega)).mp c0
    refine lv_aload_n hx hb d_FO_lengthByNumbers_4 rfl (lv_at hl 0 rfl) ?_
    refine lv_iconst (v := nI (1)) hx hb d_FO_lengthByNumbers_5 (by decide) ?_
    refine fm_cv S (c_FO_number l dC dI o wa sa la (nI (fm_nb w 2)) (nI (fm_nb w 3)) sz sc hv cI w st ln 1 (by omega)) rfl rfl k_FO_number q_2_39 ⟨Nat.le_of_ble_eq_true rfl, Nat.le_of_ble_eq_true rfl⟩ (hP.sub [0, 1, 2, 3] rfl) (hK.sub [0] rfl) 0 rfl rfl rfl hl.1 rfl (Nat.le_of_ble_eq_true rfl) ⟨Nat.zero_le _, Nat.zero_le _⟩ d_FO_lengthByNumbers_6 ?_
    have f0_6 := fm_nb_lt w 1
    exact W.iret hx hb hr (fun t ht hW => ⟨_, rfl, by rw [fm_ln, if_pos c_1], ht⟩) (fun q hq => by cases hq) d_FO_lengthByNumbers_9
theorem d_FO_take_0 : decode b_FO_take 0 = .ok (.aload_n 1, 1) := by decide +kernel
theorem d_FO_take_1 : decode b_FO_take 1 = .ok (.iconst 0, 1) := by decide +kernel
theorem d_FO_take_2 : decode b_FO_take 2 = .ok (.aload_n 0, 1) := by decide +kernel
theorem d_FO_take_3 : decode b_FO_take 3 = .ok (.getfield 11, 3) := by decide +kernel
theorem d_FO_take_6 : decode b_FO_take 6 = .ok (.iconst 0, 1) := by decide +kernel
theorem d_FO_take_7 : decode b_FO_take 7 = .ok (.aload_n 1, 1) := by decide +kernel
theorem d_FO_take_8 : decode b_FO_take 8 = .ok (.arraylength, 1) := by decide +kernel
theorem d_FO_take_9 : decode b_FO_take 9 = .ok (.aload_n 0, 1) := by decide +kernel
theorem d_FO_take_10 : decode b_FO_take 10 = .ok (.getfield 11, 3) := by decide +kernel
theorem d_FO_take_13 : decode b_FO_take 13 = .ok (.arraylength, 1) := by decide +kernel
theorem d_FO_take_14 : decode b_FO_take 14 = .ok (.invokestatic 23, 3) := by decide +kernel
theorem d_FO_take_17 : decode b_FO_take 17 = .ok (.invokestatic 29, 3) := by decide +kernel
theorem d_FO_take_20 : decode b_FO_take 20 = .ok (.aload_n 0, 1) := by decide +kernel
theorem d_FO_take_21 : decode b_FO_take 21 = .ok (.aload_n 0, 1) := by decide +kernel
theorem d_FO_take_22 : decode b_FO_take 22 = .ok (.iconst 2, 1) := by decide +kernel
theorem d_FO_take_23 : decode b_FO_take 23 = .ok (.invokevirtual 35, 3) := by decide +kernel
theorem d_FO_take_26 : decode b_FO_take 26 = .ok (.putfield 39, 3) := by decide +kernel
theorem d_FO_take_29 : decode b_FO_take 29 = .ok (.aload_n 0, 1) := by decide +kernel
theorem d_FO_take_30 : decode b_FO_take 30 = .ok (.aload_n 0, 1) := by decide +kernel
theorem d_FO_take_31 : decode b_FO_take 31 = .ok (.iconst 3, 1) := by decide +kernel
theorem d_FO_take_32 : decode b_FO_take 32 = .ok (.invokevirtual 35, 3) := by decide +kernel
theorem d_FO_take_35 : decode b_FO_take 35 = .ok (.putfield 43, 3) := by decide +kernel
theorem d_FO_take_38 : decode b_FO_take 38 = .ok (.bipush 6, 2) := by decide +kernel
theorem d_FO_take_40 : decode b_FO_take 40 = .ok (.istore_n 2, 1) := by decide +kernel
theorem d_FO_take_41 : decode b_FO_take 41 = .ok (.iconst 0, 1) := by decide +kernel
theorem d_FO_take_42 : decode b_FO_take 42 = .ok (.istore_n 3, 1) := by decide +kernel
theorem d_FO_take_43 : decode b_FO_take 43 = .ok (.iload_n 3, 1) := by decide +kernel
theorem d_FO_take_44 : decode b_FO_take 44 = .ok (.bipush 10, 2) := by decide +kernel
theorem d_FO_take_46 : decode b_FO_take 46 = .ok (.if_icmp .ge 36, 3) := by decide +kernel
theorem d_FO_take_49 : decode b_FO_take 49 = .ok (.aload_n 0, 1) := by decide +kernel
theorem d_FO_take_50 : decode b_FO_take 50 = .ok (.getfield 17, 3) := by decide +kernel
theorem d_FO_take_53 : decode b_FO_take 53 = .ok (.iload_n 3, 1) := by decide +kernel
theorem d_FO_take_54 : decode b_FO_take 54 = .ok (.iload_n 2, 1) := by decide +kernel
theorem d_FO_take_55 : decode b_FO_take 55 = .ok (.iastore, 1) := by decide +kernel
theorem d_FO_take_56 : decode b_FO_take 56 = .ok (.aload_n 0, 1) := by decide +kernel
theorem d_FO_take_57 : decode b_FO_take 57 = .ok (.getfield 20, 3) := by decide +kernel
theorem d_FO_take_60 : decode b_FO_take 60 = .ok (.iload_n 3, 1) := by decide +kernel
theorem d_FO_take_61 : decode b_FO_take 61 = .ok (.aload_n 0, 1) := by decide +kernel
theorem d_FO_take_62 : decode b_FO_take 62 = .ok (.iload_n 3, 1) := by decide +kernel
theorem d_FO_take_63 : decode b_FO_take 63 = .ok (.invokevirtual 46, 3) := by decide +kernel
theorem d_FO_take_66 : decode b_FO_take 66 = .ok (.iastore, 1) := by decide +kernel
theorem d_FO_take_67 : decode b_FO_take 67 = .ok (.iload_n 2, 1) := by decide +kernel
theorem d_FO_take_68 : decode b_FO_take 68 = .ok (.aload_n 0, 1) := by decide +kernel
theorem d_FO_take_69 : decode b_FO_take 69 = .ok (.getfield 20, 3) := by decide +kernel
theorem d_FO_take_72 : decode b_FO_take 72 = .ok (.iload_n 3, 1) := by decide +kernel
theorem d_FO_take_73 : decode b_FO_take 73 = .ok (.iaload, 1) := by decide +kernel
theorem d_FO_take_74 : decode b_FO_take 74 = .ok (.iadd, 1) := by decide +kernel
theorem d_FO_take_75 : decode b_FO_take 75 = .ok (.istore_n 2, 1) := by decide +kernel
theorem d_FO_take_76 : decode b_FO_take 76 = .ok (.iinc 3 1, 3) := by decide +kernel
theorem d_FO_take_79 : decode b_FO_take 79 = .ok (.goto (-36), 3) := by decide +kernel
theorem d_FO_take_82 : decode b_FO_take 82 = .ok (.return_, 1) := by decide +kernel
set_option maxHeartbeats 4000000 in
set_option maxRecDepth 100000 in
theorem c_FO_take (l : Launch) (dC : Nat → ClassId) (dI : Nat → Nat → Nat) (o : Nat) (wa : Nat) (sa : Nat) (la : Nat) (bc : Int32) (ec : Int32) (sz : Int32) (sc : Int32) (hv : Int32) (cI : ClassId) (w : Nat → Int32) (st : Nat → Int32) (ln : Nat → Int32) (ba : Nat) (b : Nat → Int32)  : fm_MW l (dC, dI) y_FO_take w_FO_take ({ frames := 2, cells := 0, slots := 0, locals := 64 }) [.ref o, .ref ba] [(o, .inr (1, [.ref wa, .ref sa, .ref la, .int (bc), .int (ec), .int (sz), .int (sc), .int (hv)])), (wa, .inl (cI, 2048, .inl (w))), (sa, .inl (cI, 10, .inl (st))), (la, .inl (cI, 10, .inl (ln))), (ba, .inl (cI, 2048, .inl (b)))] [(o, .inr (1, [.ref wa, .ref sa, .ref la, .int (nI (fm_nb (fm_tk b w) 2)), .int (nI (fm_nb (fm_tk b w) 3)), .int (sz), .int (sc), .int (hv)])), (wa, .inl (cI, 2048, .inl (fm_tk b w))), (sa, .inl (cI, 10, .inl (fm_cp (fm_sI (fm_tk b w)) st 10))), (la, .inl (cI, 10, .inl (fm_cp (fm_ln (fm_tk b w)) ln 10))), (ba, .inl (cI, 2048, .inl (b)))] [(cI, .int)] none := by
  refine Met.ofW (cc := b_FO_take) (maxL := 4) (ret := none) (by decide) rfl ?_
  intro pg ev s m args below meth cd s₁ BD hml hv
  obtain ⟨rfl, hP, hK, hD0⟩ := hv
  have hx := BD.exec
  have hb := BD.bytes
  have hr := BD.returns
  have hts := atoms_spec (ws := w_FO_take) BD.pre
  have ht : ∀ w ∈ fm_T, w.before _ s = true := fun w h => hts w (List.mem_cons_of_mem _ h)
  have hown : s.vm.findClass R_FO = some m.cls := findClass_of_methodNamed BD.named
  have hlocks := BD.notSynchronized
  have S : CallFix pg m cd b_FO_take 4 s _ w_FO_take R_FO := ⟨hx, hb, hml, hown, hts⟩
  have hD := fm_selfD hD0
  generalize fm_A [(o, .inr (1, [.ref wa, .ref sa, .ref la, .int (bc), .int (ec), .int (sz), .int (sc), .int (hv)])), (wa, .inl (cI, 2048, .inl (w))), (sa, .inl (cI, 10, .inl (st))), (la, .inl (cI, 10, .inl (ln))), (ba, .inl (cI, 2048, .inl (b)))] = A at hD ⊢
  have hS : va_S A s.heap s.heap [] := va_S.rf
  have hl := lv_entry ([.ref o, .ref ba]) (n := 4) (Nat.le_of_ble_eq_true rfl)
  rw [lg_entry_eq]
  generalize (lg_sl ([.ref o, .ref ba]) ++ List.replicate (4 - (lg_sl ([.ref o, .ref ba])).length) Slot.unset).toArray = ls at hl ⊢
  have hl : lv_has ls 4 [(0, .ref o), (1, .ref ba)] := hl
  refine lv_aload_n hx hb d_FO_take_0 rfl (lv_at hl 1 rfl) ?_
  refine lv_iconst (v := nI (0)) hx hb d_FO_take_1 (by decide) ?_
  refine lv_aload_n hx hb d_FO_take_2 rfl (lv_at hl 0 rfl) ?_
  refine va_get (D := (dC, dI)) (ci := 1) (v := .ref wa) (C := R_FO) (T := F_FO) (N := 8) hx hb ht i_FO hown hK hP 0 rfl rfl 0 (by decide) (ht _ q_1_69) (fun _ h9 => h9) rfl d_FO_take_3 ?_
  refine lv_iconst (v := nI (0)) hx hb d_FO_take_6 (by decide) ?_
  refine lv_aload_n hx hb d_FO_take_7 rfl (lv_at hl 1 rfl) ?_
  refine va_alen hx hb hK hP 4 0 rfl rfl (v := nI (2048)) rfl d_FO_take_8 ?_
  refine lv_aload_n hx hb d_FO_take_9 rfl (lv_at hl 0 rfl) ?_
  refine va_get (D := (dC, dI)) (ci := 1) (v := .ref wa) (C := R_FO) (T := F_FO) (N := 8) hx hb ht i_FO hown hK hP 0 rfl rfl 0 (by decide) (ht _ q_1_69) (fun _ h9 => h9) rfl d_FO_take_10 ?_
  refine va_alen hx hb hK hP 1 0 rfl rfl (v := nI (2048)) rfl d_FO_take_13 ?_
  refine va_mmin hx hb (by rw [hml]; exact hl.1.symm) hown (ht _ q_2_33) (ht _ q_2_34) (ht _ q_1_10) (ht _ q_2_35) (Nat.le_of_ble_eq_true rfl) (Nat.le_of_ble_eq_true rfl) (Nat.zero_le _) (Nat.zero_le _) d_FO_take_14 ?_
  refine fm_tw (z := nI (2048)) (by decide) ?_
  refine va_copyi hx hb (by rw [hml]; exact hl.1.symm) hown (ht _ q_2_36) (ht _ q_2_38) (ht _ q_2_37) (ht _ q_1_11) hK hP hD hS 4 1 0 0 rfl rfl rfl rfl rfl (by decide) (by decide) (by decide) (by decide) (by decide) (fun i _ => rfl) (Nat.le_of_ble_eq_true rfl) (Nat.le_of_ble_eq_true rfl) d_FO_take_17 (fun H locs hP hD hS => ?_)
  have hP : va_P (dC, dI) classes [(o, .inr (1, [.ref wa, .ref sa, .ref la, .int (bc), .int (ec), .int (sz), .int (sc), .int (hv)])), (wa, .inl (cI, 2048, .inl (fm_tk b w))), (sa, .inl (cI, 10, .inl (st))), (la, .inl (cI, 10, .inl (ln))), (ba, .inl (cI, 2048, .inl (b)))] _ := hP
  have hD : va_D A [(o, .inr (1, [.ref wa, .ref sa, .ref la, .int (bc), .int (ec), .int (sz), .int (sc), .int (hv)])), (wa, .inl (cI, 2048, .inl (fm_tk b w))), (sa, .inl (cI, 10, .inl (st))), (la, .inl (cI, 10, .inl (ln))), (ba, .inl (cI, 2048, .inl (b)))] := hD
  refine lv_aload_n hx hb d_FO_take_20 rfl (lv_at hl 0 rfl) ?_
  refine lv_aload_n hx hb d_FO_take_21 rfl (lv_at hl 0 rfl) ?_
  refine lv_iconst (v := nI (2)) hx hb d_FO_take_22 (by decide) ?_
  refine fm_cv S (c_FO_number l dC dI o wa sa la bc ec sz sc hv cI (fm_tk b w) st ln 2 (by omega)) rfl rfl k_FO_number q_2_39 ⟨Nat.le_of_ble_eq_true rfl, Nat.le_of_ble_eq_true rfl⟩ (hP.sub [0, 1, 2, 3] rfl) (hK.sub [0] rfl) 0 rfl rfl rfl hl.1 rfl (Nat.le_of_ble_eq_true rfl) ⟨Nat.zero_le _, Nat.zero_le _⟩ d_FO_take_23 ?_
  have f0_23 := fm_nb_lt (fm_tk b w) 2
  refine va_put (D := (dC, dI)) (ci := 1) (v := .int (nI (fm_nb (fm_tk b w) 2))) (ty := .int) (C := R_FO) (T := F_FO) (N := 8) hx hb ht i_FO t_FO t_FO_ok n_FO hown hK hP hD hS 0 rfl rfl 3 (by decide) (ht _ q_1_73) (fun _ h9 => h9) rfl (by decide +kernel) (rfl) (rfl) (Nat.le_of_ble_eq_true rfl) d_FO_take_26 (fun H locs hP hD hS => ?_)
  have hP : va_P (dC, dI) classes [(o, .inr (1, [.ref wa, .ref sa, .ref la, .int (nI (fm_nb (fm_tk b w) 2)), .int (ec), .int (sz), .int (sc), .int (hv)])), (wa, .inl (cI, 2048, .inl (fm_tk b w))), (sa, .inl (cI, 10, .inl (st))), (la, .inl (cI, 10, .inl (ln))), (ba, .inl (cI, 2048, .inl (b)))] _ := hP
  have hD : va_D A [(o, .inr (1, [.ref wa, .ref sa, .ref la, .int (nI (fm_nb (fm_tk b w) 2)), .int (ec), .int (sz), .int (sc), .int (hv)])), (wa, .inl (cI, 2048, .inl (fm_tk b w))), (sa, .inl (cI, 10, .inl (st))), (la, .inl (cI, 10, .inl (ln))), (ba, .inl (cI, 2048, .inl (b)))] := hD
  refine lv_aload_n hx hb d_FO_take_29 rfl (lv_at hl 0 rfl) ?_
  refine lv_aload_n hx hb d_FO_take_30 rfl (lv_at hl 0 rfl) ?_
  refine lv_iconst (v := nI (3)) hx hb d_FO_take_31 (by decide) ?_
  refine fm_cv S (c_FO_number l dC dI o wa sa la (nI (fm_nb (fm_tk b w) 2)) ec sz sc hv cI (fm_tk b w) st ln 3 (by omega)) rfl rfl k_FO_number q_2_39 ⟨Nat.le_of_ble_eq_true rfl, Nat.le_of_ble_eq_true rfl⟩ (hP.sub [0, 1, 2, 3] rfl) (hK.sub [0] rfl) 0 rfl rfl rfl hl.1 rfl (Nat.le_of_ble_eq_true rfl) ⟨Nat.zero_le _, Nat.zero_le _⟩ d_FO_take_32 ?_
  have f0_32 := fm_nb_lt (fm_tk b w) 3
  refine va_put (D := (dC, dI)) (ci := 1) (v := .int (nI (fm_nb (fm_tk b w) 3))) (ty := .int) (C := R_FO) (T := F_FO) (N := 8) hx hb ht i_FO t_FO t_FO_ok n_FO hown hK hP hD hS 0 rfl rfl 4 (by decide) (ht _ q_1_76) (fun _ h9 => h9) rfl (by decide +kernel) (rfl) (rfl) (Nat.le_of_ble_eq_true rfl) d_FO_take_35 (fun H locs hP hD hS => ?_)
  have hP : va_P (dC, dI) classes [(o, .inr (1, [.ref wa, .ref sa, .ref la, .int (nI (fm_nb (fm_tk b w) 2)), .int (nI (fm_nb (fm_tk b w) 3)), .int (sz), .int (sc), .int (hv)])), (wa, .inl (cI, 2048, .inl (fm_tk b w))), (sa, .inl (cI, 10, .inl (st))), (la, .inl (cI, 10, .inl (ln))), (ba, .inl (cI, 2048, .inl (b)))] _ := hP
  have hD : va_D A [(o, .inr (1, [.ref wa, .ref sa, .ref la, .int (nI (fm_nb (fm_tk b w) 2)), .int (nI (fm_nb (fm_tk b w) 3)), .int (sz), .int (sc), .int (hv)])), (wa, .inl (cI, 2048, .inl (fm_tk b w))), (sa, .inl (cI, 10, .inl (st))), (la, .inl (cI, 10, .inl (ln))), (ba, .inl (cI, 2048, .inl (b)))] := hD
  refine lv_bipush (v := nI (6)) hx hb d_FO_take_38 (by decide) ?_
  refine lv_istore_n (lv' := [(2, .int (nI (6))), (0, .ref o), (1, .ref ba)]) hx hb d_FO_take_40 rfl hl (by decide) rfl (fun ls hl => ?_)
  refine lv_iconst (v := nI (0)) hx hb d_FO_take_41 (by decide) ?_
  refine lv_istore_n (lv' := [(3, .int (nI (0))), (2, .int (nI (6))), (0, .ref o), (1, .ref ba)]) hx hb d_FO_take_42 rfl hl (by decide) rfl (fun ls hl => ?_)
  refine fm_wloop1 (nL := 4) (LV := fun (i : Nat) => [(0, .ref o), (2, .int (fm_sI (fm_tk b w) i)), (3, .int (nI (i)))]) (WS := fun (i : Nat) => [(o, .inr (1, [.ref wa, .ref sa, .ref la, .int (nI (fm_nb (fm_tk b w) 2)), .int (nI (fm_nb (fm_tk b w) 3)), .int (sz), .int (sc), .int (hv)])), (wa, .inl (cI, 2048, .inl (fm_tk b w))), (sa, .inl (cI, 10, .inl (fm_cp (fm_sI (fm_tk b w)) st i))), (la, .inl (cI, 10, .inl (fm_cp (fm_ln (fm_tk b w)) ln i))), (ba, .inl (cI, 2048, .inl (b)))]) (I := fun (i : Nat) => i ≤ 10) (μ := fun (i : Nat) => 10 - i) ?_ 0 (by decide) (by rw [fm_cp_0, fm_cp_0]; exact hP) (by rw [fm_cp_0, fm_cp_0]; exact hD) hS ls (lv_sub hl [2, 1, 0] rfl)
  intro i hI_43 ih_43 H locs ls hP hD hS hl
  have hl : lv_has ls 4 [(0, .ref o), (2, .int (fm_sI (fm_tk b w) i)), (3, .int (nI (i)))] := hl
  have hP : va_P (dC, dI) classes [(o, .inr (1, [.ref wa, .ref sa, .ref la, .int (nI (fm_nb (fm_tk b w) 2)), .int (nI (fm_nb (fm_tk b w) 3)), .int (sz), .int (sc), .int (hv)])), (wa, .inl (cI, 2048, .inl (fm_tk b w))), (sa, .inl (cI, 10, .inl (fm_cp (fm_sI (fm_tk b w)) st i))), (la, .inl (cI, 10, .inl (fm_cp (fm_ln (fm_tk b w)) ln i))), (ba, .inl (cI, 2048, .inl (b)))] _ := hP
  have hD : va_D A [(o, .inr (1, [.ref wa, .ref sa, .ref la, .int (nI (fm_nb (fm_tk b w) 2)), .int (nI (fm_nb (fm_tk b w) 3)), .int (sz), .int (sc), .int (hv)])), (wa, .inl (cI, 2048, .inl (fm_tk b w))), (sa, .inl (cI, 10, .inl (fm_cp (fm_sI (fm_tk b w)) st i))), (la, .inl (cI, 10, .inl (fm_cp (fm_ln (fm_tk b w)) ln i))), (ba, .inl (cI, 2048, .inl (b)))] := hD
  refine lv_iload_n hx hb d_FO_take_43 rfl (lv_at hl 2 rfl) ?_
  refine lv_bipush (v := nI (10)) hx hb d_FO_take_44 (by decide) ?_
  refine lv_icmp_ge (tgt := 82) hx hb d_FO_take_46 (by decide) (fun c0 => ?_) (fun c0 => ?_)
  · have c_46 : 10 ≤ i := (nI_leI (a := 10) (b := i) (by omega) (by omega)).mp c0
    have hi10 : i = 10 := by omega
    rw [hi10] at hP hD
    exact W.vret hx hb hr (fun t ht hW => ⟨rfl, by rw [ht]; exact hP, hS.F ht⟩) hS.2.2 d_FO_take_82
  · have c_46 : ¬ (10 ≤ i) := fun z => c0 ((nI_leI (a := 10) (b := i) (by omega) (by omega)).mpr z)
    refine lv_aload_n hx hb d_FO_take_49 rfl (lv_at hl 0 rfl) ?_
    refine va_get (D := (dC, dI)) (ci := 1) (v := .ref sa) (C := R_FO) (T := F_FO) (N := 8) hx hb ht i_FO hown hK hP 0 rfl rfl 1 (by decide) (ht _ q_1_70) (fun _ h9 => h9) rfl d_FO_take_50 ?_
    refine lv_iload_n hx hb d_FO_take_53 rfl (lv_at hl 2 rfl) ?_
    refine lv_iload_n hx hb d_FO_take_54 rfl (lv_at hl 1 rfl) ?_
    refine va_iast hx hb hK hP hD hS 2 0 rfl rfl (vp_in_nI (by omega) (by omega)) d_FO_take_55 (fun H locs hP hD hS => ?_)
    have hP : va_P (dC, dI) classes [(o, .inr (1, [.ref wa, .ref sa, .ref la, .int (nI (fm_nb (fm_tk b w) 2)), .int (nI (fm_nb (fm_tk b w) 3)), .int (sz), .int (sc), .int (hv)])), (wa, .inl (cI, 2048, .inl (fm_tk b w))), (sa, .inl (cI, 10, .inl (upd (fm_cp (fm_sI (fm_tk b w)) st i) (nI (i)).toNatClampNeg ((fm_sI (fm_tk b w) i))))), (la, .inl (cI, 10, .inl (fm_cp (fm_ln (fm_tk b w)) ln i))), (ba, .inl (cI, 2048, .inl (b)))] _ := hP
    have hD : va_D A [(o, .inr (1, [.ref wa, .ref sa, .ref la, .int (nI (fm_nb (fm_tk b w) 2)), .int (nI (fm_nb (fm_tk b w) 3)), .int (sz), .int (sc), .int (hv)])), (wa, .inl (cI, 2048, .inl (fm_tk b w))), (sa, .inl (cI, 10, .inl (upd (fm_cp (fm_sI (fm_tk b w)) st i) (nI (i)).toNatClampNeg ((fm_sI (fm_tk b w) i))))), (la, .inl (cI, 10, .inl (fm_cp (fm_ln (fm_tk b w)) ln i))), (ba, .inl (cI, 2048, .inl (b)))] := hD
    rw [nI_clamp (show i < 2 ^ 31 by omega)] at hP hD
    have hP : va_P (dC, dI) classes [(o, .inr (1, [.ref wa, .ref sa, .ref la, .int (nI (fm_nb (fm_tk b w) 2)), .int (nI (fm_nb (fm_tk b w) 3)), .int (sz), .int (sc), .int (hv)])), (wa, .inl (cI, 2048, .inl (fm_tk b w))), (sa, .inl (cI, 10, .inl (upd (fm_cp (fm_sI (fm_tk b w)) st i) (i) ((fm_sI (fm_tk b w) i))))), (la, .inl (cI, 10, .inl (fm_cp (fm_ln (fm_tk b w)) ln i))), (ba, .inl (cI, 2048, .inl (b)))] _ := hP
    have hD : va_D A [(o, .inr (1, [.ref wa, .ref sa, .ref la, .int (nI (fm_nb (fm_tk b w) 2)), .int (nI (fm_nb (fm_tk b w) 3)), .int (sz), .int (sc), .int (hv)])), (wa, .inl (cI, 2048, .inl (fm_tk b w))), (sa, .inl (cI, 10, .inl (upd (fm_cp (fm_sI (fm_tk b w)) st i) (i) ((fm_sI (fm_tk b w) i))))), (la, .inl (cI, 10, .inl (fm_cp (fm_ln (fm_tk b w)) ln i))), (ba, .inl (cI, 2048, .inl (b)))] := hD
    refine lv_aload_n hx hb d_FO_take_56 rfl (lv_at hl 0 rfl) ?_
    refine va_get (D := (dC, dI)) (ci := 1) (v := .ref la) (C := R_FO) (T := F_FO) (N := 8) hx hb ht i_FO hown hK hP 0 rfl rfl 2 (by decide) (ht _ q_1_71) (fun _ h9 => h9) rfl d_FO_take_57 ?_
    refine lv_iload_n hx hb d_FO_take_60 rfl (lv_at hl 2 rfl) ?_
    refine lv_aload_n hx hb d_FO_take_61 rfl (lv_at hl 0 rfl) ?_
    refine lv_iload_n hx hb d_FO_take_62 rfl (lv_at hl 2 rfl) ?_
    refine fm_cv S (c_FO_lengthByNumbers l dC dI o wa sa la sz sc hv cI (fm_tk b w) (upd (fm_cp (fm_sI (fm_tk b w)) st i) (i) ((fm_sI (fm_tk b w) i))) (fm_cp (fm_ln (fm_tk b w)) ln i) i (by omega)) rfl rfl k_FO_lengthByNumbers q_2_44 ⟨Nat.le_of_ble_eq_true rfl, Nat.le_of_ble_eq_true rfl⟩ (hP.sub [0, 1, 2, 3] rfl) (hK.sub [0] rfl) 0 rfl rfl rfl hl.1 rfl (Nat.le_of_ble_eq_true rfl) ⟨Nat.zero_le _, Nat.zero_le _⟩ d_FO_take_63 ?_
    refine va_iast hx hb hK hP hD hS 3 0 rfl rfl (vp_in_nI (by omega) (by omega)) d_FO_take_66 (fun H locs hP hD hS => ?_)
    have hP : va_P (dC, dI) classes [(o, .inr (1, [.ref wa, .ref sa, .ref la, .int (nI (fm_nb (fm_tk b w) 2)), .int (nI (fm_nb (fm_tk b w) 3)), .int (sz), .int (sc), .int (hv)])), (wa, .inl (cI, 2048, .inl (fm_tk b w))), (sa, .inl (cI, 10, .inl (upd (fm_cp (fm_sI (fm_tk b w)) st i) (i) ((fm_sI (fm_tk b w) i))))), (la, .inl (cI, 10, .inl (upd (fm_cp (fm_ln (fm_tk b w)) ln i) (nI (i)).toNatClampNeg ((fm_ln (fm_tk b w) i))))), (ba, .inl (cI, 2048, .inl (b)))] _ := hP
    have hD : va_D A [(o, .inr (1, [.ref wa, .ref sa, .ref la, .int (nI (fm_nb (fm_tk b w) 2)), .int (nI (fm_nb (fm_tk b w) 3)), .int (sz), .int (sc), .int (hv)])), (wa, .inl (cI, 2048, .inl (fm_tk b w))), (sa, .inl (cI, 10, .inl (upd (fm_cp (fm_sI (fm_tk b w)) st i) (i) ((fm_sI (fm_tk b w) i))))), (la, .inl (cI, 10, .inl (upd (fm_cp (fm_ln (fm_tk b w)) ln i) (nI (i)).toNatClampNeg ((fm_ln (fm_tk b w) i))))), (ba, .inl (cI, 2048, .inl (b)))] := hD
    rw [nI_clamp (show i < 2 ^ 31 by omega)] at hP hD
    have hP : va_P (dC, dI) classes [(o, .inr (1, [.ref wa, .ref sa, .ref la, .int (nI (fm_nb (fm_tk b w) 2)), .int (nI (fm_nb (fm_tk b w) 3)), .int (sz), .int (sc), .int (hv)])), (wa, .inl (cI, 2048, .inl (fm_tk b w))), (sa, .inl (cI, 10, .inl (upd (fm_cp (fm_sI (fm_tk b w)) st i) (i) ((fm_sI (fm_tk b w) i))))), (la, .inl (cI, 10, .inl (upd (fm_cp (fm_ln (fm_tk b w)) ln i) (i) ((fm_ln (fm_tk b w) i))))), (ba, .inl (cI, 2048, .inl (b)))] _ := hP
    have hD : va_D A [(o, .inr (1, [.ref wa, .ref sa, .ref la, .int (nI (fm_nb (fm_tk b w) 2)), .int (nI (fm_nb (fm_tk b w) 3)), .int (sz), .int (sc), .int (hv)])), (wa, .inl (cI, 2048, .inl (fm_tk b w))), (sa, .inl (cI, 10, .inl (upd (fm_cp (fm_sI (fm_tk b w)) st i) (i) ((fm_sI (fm_tk b w) i))))), (la, .inl (cI, 10, .inl (upd (fm_cp (fm_ln (fm_tk b w)) ln i) (i) ((fm_ln (fm_tk b w) i))))), (ba, .inl (cI, 2048, .inl (b)))] := hD
    refine lv_iload_n hx hb d_FO_take_67 rfl (lv_at hl 1 rfl) ?_
    refine lv_aload_n hx hb d_FO_take_68 rfl (lv_at hl 0 rfl) ?_
    refine va_get (D := (dC, dI)) (ci := 1) (v := .ref la) (C := R_FO) (T := F_FO) (N := 8) hx hb ht i_FO hown hK hP 0 rfl rfl 2 (by decide) (ht _ q_1_71) (fun _ h9 => h9) rfl d_FO_take_69 ?_
    refine lv_iload_n hx hb d_FO_take_72 rfl (lv_at hl 2 rfl) ?_
    refine va_iald hx hb hK hP 3 0 rfl rfl (vp_in_nI (by omega) (by omega)) d_FO_take_73 ?_
    refine fm_tw (z := (upd (fm_cp (fm_ln (fm_tk b w)) ln i) (i) ((fm_ln (fm_tk b w) i))) (i)) (by rw [nI_clamp (by omega)]) ?_
    refine fm_tw (z := (fm_ln (fm_tk b w) i)) (pk_us) ?_
    refine lv_iadd hx hb d_FO_take_74 ?_
    refine fm_tw (z := (fm_sI (fm_tk b w) (i + 1))) (rfl) ?_
    refine lv_istore_n (lv' := [(2, .int (fm_sI (fm_tk b w) (i + 1))), (0, .ref o), (3, .int (nI (i)))]) hx hb d_FO_take_75 rfl hl (by decide) rfl (fun ls hl => ?_)
    refine lv_iinc (v := nI (i + 1)) (lv' := [(3, .int (nI (i + 1))), (2, .int (fm_sI (fm_tk b w) (i + 1))), (0, .ref o)]) hx hb d_FO_take_76 hl (k := 2) rfl (nI_1 _) (by decide) rfl (fun ls hl => ?_)
    refine lv_goto (tgt := 43) hx hb d_FO_take_79 (by decide) ?_
    exact ih_43 (i + 1) H locs ls (by omega) (by omega) (by rw [fm_cp_s, fm_cp_s] at hP; exact hP) (by rw [fm_cp_s, fm_cp_s] at hD; exact hD) hS (lv_sub hl [2, 1, 0] rfl)
theorem d_FO_resize_0 : decode b_FO_resize 0 = .ok (.aload_n 0, 1) := by decide +kernel
theorem d_FO_resize_1 : decode b_FO_resize 1 = .ok (.iload_n 1, 1) := by decide +kernel
theorem d_FO_resize_2 : decode b_FO_resize 2 = .ok (.putfield 49, 3) := by decide +kernel
theorem d_FO_resize_5 : decode b_FO_resize 5 = .ok (.aload_n 0, 1) := by decide +kernel
theorem d_FO_resize_6 : decode b_FO_resize 6 = .ok (.iload_n 1, 1) := by decide +kernel
theorem d_FO_resize_7 : decode b_FO_resize 7 = .ok (.putfield 52, 3) := by decide +kernel
theorem d_FO_resize_10 : decode b_FO_resize 10 = .ok (.aload_n 0, 1) := by decide +kernel
theorem d_FO_resize_11 : decode b_FO_resize 11 = .ok (.iconst 0, 1) := by decide +kernel
theorem d_FO_resize_12 : decode b_FO_resize 12 = .ok (.putfield 55, 3) := by decide +kernel
theorem d_FO_resize_15 : decode b_FO_resize 15 = .ok (.aload_n 0, 1) := by decide +kernel
theorem d_FO_resize_16 : decode b_FO_resize 16 = .ok (.getfield 52, 3) := by decide +kernel
theorem d_FO_resize_19 : decode b_FO_resize 19 = .ok (.ldc 58, 2) := by decide +kernel
theorem d_FO_resize_21 : decode b_FO_resize 21 = .ok (.if_icmp .lt 35, 3) := by decide +kernel
theorem d_FO_resize_24 : decode b_FO_resize 24 = .ok (.aload_n 0, 1) := by decide +kernel
theorem d_FO_resize_25 : decode b_FO_resize 25 = .ok (.getfield 55, 3) := by decide +kernel
theorem d_FO_resize_28 : decode b_FO_resize 28 = .ok (.bipush 20, 2) := by decide +kernel
theorem d_FO_resize_30 : decode b_FO_resize 30 = .ok (.if_icmp .ge 26, 3) := by decide +kernel
theorem d_FO_resize_33 : decode b_FO_resize 33 = .ok (.aload_n 0, 1) := by decide +kernel
theorem d_FO_resize_34 : decode b_FO_resize 34 = .ok (.aload_n 0, 1) := by decide +kernel
theorem d_FO_resize_35 : decode b_FO_resize 35 = .ok (.getfield 52, 3) := by decide +kernel
theorem d_FO_resize_38 : decode b_FO_resize 38 = .ok (.iconst 2, 1) := by decide +kernel
theorem d_FO_resize_39 : decode b_FO_resize 39 = .ok (.idiv, 1) := by decide +kernel
theorem d_FO_resize_40 : decode b_FO_resize 40 = .ok (.putfield 52, 3) := by decide +kernel
theorem d_FO_resize_43 : decode b_FO_resize 43 = .ok (.aload_n 0, 1) := by decide +kernel
theorem d_FO_resize_44 : decode b_FO_resize 44 = .ok (.dup, 1) := by decide +kernel
theorem d_FO_resize_45 : decode b_FO_resize 45 = .ok (.getfield 55, 3) := by decide +kernel
theorem d_FO_resize_48 : decode b_FO_resize 48 = .ok (.iconst 1, 1) := by decide +kernel
theorem d_FO_resize_49 : decode b_FO_resize 49 = .ok (.iadd, 1) := by decide +kernel
theorem d_FO_resize_50 : decode b_FO_resize 50 = .ok (.putfield 55, 3) := by decide +kernel
theorem d_FO_resize_53 : decode b_FO_resize 53 = .ok (.goto (-38), 3) := by decide +kernel
theorem d_FO_resize_56 : decode b_FO_resize 56 = .ok (.return_, 1) := by decide +kernel
set_option maxHeartbeats 4000000 in
set_option maxRecDepth 100000 in
theorem c_FO_resize (l : Launch) (dC : Nat → ClassId) (dI : Nat → Nat → Nat) (o : Nat) (wa : Nat) (sa : Nat) (la : Nat) (bc : Int32) (ec : Int32) (sz : Int32) (sc : Int32) (hv : Int32) (s0 : Nat) (hs : s0 < 134217728) : fm_MW l (dC, dI) y_FO_resize w_FO_resize ({ frames := 0, cells := 0, slots := 0, locals := 0 }) [.ref o, .int (nI (s0))] [(o, .inr (1, [.ref wa, .ref sa, .ref la, .int (bc), .int (ec), .int (sz), .int (sc), .int (hv)]))] [(o, .inr (1, [.ref wa, .ref sa, .ref la, .int (bc), .int (ec), .int (nI (s0)), .int (nI (fm_z s0)), .int (nI (fm_h s0))]))] [] none := by
  refine Met.ofW (cc := b_FO_resize) (maxL := 2) (ret := none) (by decide) rfl ?_
  intro pg ev s m args below meth cd s₁ BD hml hv
  obtain ⟨rfl, hP, hK, hD0⟩ := hv
  have hx := BD.exec
  have hb := BD.bytes
  have hr := BD.returns
  have hts := atoms_spec (ws := w_FO_resize) BD.pre
  have ht : ∀ w ∈ fm_T, w.before _ s = true := fun w h => hts w (List.mem_cons_of_mem _ h)
  have hown : s.vm.findClass R_FO = some m.cls := findClass_of_methodNamed BD.named
  have hlocks := BD.notSynchronized
  have S : CallFix pg m cd b_FO_resize 2 s _ w_FO_resize R_FO := ⟨hx, hb, hml, hown, hts⟩
  have hD := fm_selfD hD0
  generalize fm_A [(o, .inr (1, [.ref wa, .ref sa, .ref la, .int (bc), .int (ec), .int (sz), .int (sc), .int (hv)]))] = A at hD ⊢
  have hS : va_S A s.heap s.heap [] := va_S.rf
  have hl := lv_entry ([.ref o, .int (nI (s0))]) (n := 2) (Nat.le_of_ble_eq_true rfl)
  rw [lg_entry_eq]
  generalize (lg_sl ([.ref o, .int (nI (s0))]) ++ List.replicate (2 - (lg_sl ([.ref o, .int (nI (s0))])).length) Slot.unset).toArray = ls at hl ⊢
  have hl : lv_has ls 2 [(0, .ref o), (1, .int (nI (s0)))] := hl
  have hh4 := fm_h_le s0
  refine lv_aload_n hx hb d_FO_resize_0 rfl (lv_at hl 0 rfl) ?_
  refine lv_iload_n hx hb d_FO_resize_1 rfl (lv_at hl 1 rfl) ?_
  refine va_put (D := (dC, dI)) (ci := 1) (v := .int (nI (s0))) (ty := .int) (C := R_FO) (T := F_FO) (N := 8) hx hb ht i_FO t_FO t_FO_ok n_FO hown hK hP hD hS 0 rfl rfl 5 (by decide) (ht _ q_1_78) (fun _ h9 => h9) rfl (by decide +kernel) (rfl) (rfl) (Nat.le_of_ble_eq_true rfl) d_FO_resize_2 (fun H locs hP hD hS => ?_)
  have hP : va_P (dC, dI) classes [(o, .inr (1, [.ref wa, .ref sa, .ref la, .int (bc), .int (ec), .int (nI (s0)), .int (sc), .int (hv)]))] _ := hP
  have hD : va_D A [(o, .inr (1, [.ref wa, .ref sa, .ref la, .int (bc), .int (ec), .int (nI (s0)), .int (sc), .int (hv)]))] := hD
  refine lv_aload_n hx hb d_FO_resize_5 rfl (lv_at hl 0 rfl) ?_
  refine lv_iload_n hx hb d_FO_resize_6 rfl (lv_at hl 1 rfl) ?_
  refine va_put (D := (dC, dI)) (ci := 1) (v := .int (nI (s0))) (ty := .int) (C := R_FO) (T := F_FO) (N := 8) hx hb ht i_FO t_FO t_FO_ok n_FO hown hK hP hD hS 0 rfl rfl 6 (by decide) (ht _ q_1_80) (fun _ h9 => h9) rfl (by decide +kernel) (rfl) (rfl) (Nat.le_of_ble_eq_true rfl) d_FO_resize_7 (fun H locs hP hD hS => ?_)
  have hP : va_P (dC, dI) classes [(o, .inr (1, [.ref wa, .ref sa, .ref la, .int (bc), .int (ec), .int (nI (s0)), .int (nI (s0)), .int (hv)]))] _ := hP
  have hD : va_D A [(o, .inr (1, [.ref wa, .ref sa, .ref la, .int (bc), .int (ec), .int (nI (s0)), .int (nI (s0)), .int (hv)]))] := hD
  refine lv_aload_n hx hb d_FO_resize_10 rfl (lv_at hl 0 rfl) ?_
  refine lv_iconst (v := nI (0)) hx hb d_FO_resize_11 (by decide) ?_
  refine va_put (D := (dC, dI)) (ci := 1) (v := .int (nI (0))) (ty := .int) (C := R_FO) (T := F_FO) (N := 8) hx hb ht i_FO t_FO t_FO_ok n_FO hown hK hP hD hS 0 rfl rfl 7 (by decide) (ht _ q_1_81) (fun _ h9 => h9) rfl (by decide +kernel) (rfl) (rfl) (Nat.le_of_ble_eq_true rfl) d_FO_resize_12 (fun H locs hP hD hS => ?_)
  have hP : va_P (dC, dI) classes [(o, .inr (1, [.ref wa, .ref sa, .ref la, .int (bc), .int (ec), .int (nI (s0)), .int (nI (s0)), .int (nI (0))]))] _ := hP
  have hD : va_D A [(o, .inr (1, [.ref wa, .ref sa, .ref la, .int (bc), .int (ec), .int (nI (s0)), .int (nI (s0)), .int (nI (0))]))] := hD
  refine fm_wloop1 (nL := 2) (LV := fun (i : Nat) => [(0, .ref o)]) (WS := fun (i : Nat) => [(o, .inr (1, [.ref wa, .ref sa, .ref la, .int (bc), .int (ec), .int (nI (s0)), .int (nI (s0 / 2 ^ i)), .int (nI (i))]))]) (I := fun (i : Nat) => i ≤ fm_h s0) (μ := fun (i : Nat) => fm_h s0 - i) ?_ 0 (Nat.zero_le _) (by rw [Nat.pow_zero, Nat.div_one]; exact hP) (by rw [Nat.pow_zero, Nat.div_one]; exact hD) hS ls (lv_sub hl [0] rfl)
  intro i hI_15 ih_15 H locs ls hP hD hS hl
  have hl : lv_has ls 2 [(0, .ref o)] := hl
  have hP : va_P (dC, dI) classes [(o, .inr (1, [.ref wa, .ref sa, .ref la, .int (bc), .int (ec), .int (nI (s0)), .int (nI (s0 / 2 ^ i)), .int (nI (i))]))] _ := hP
  have hD : va_D A [(o, .inr (1, [.ref wa, .ref sa, .ref la, .int (bc), .int (ec), .int (nI (s0)), .int (nI (s0 / 2 ^ i)), .int (nI (i))]))] := hD
  have hdv : s0 / 2 ^ i < 134217728 := Nat.lt_of_le_of_lt (Nat.div_le_self _ _) hs
  refine lv_aload_n hx hb d_FO_resize_15 rfl (lv_at hl 0 rfl) ?_
  refine va_get (D := (dC, dI)) (ci := 1) (v := .int (nI (s0 / 2 ^ i))) (C := R_FO) (T := F_FO) (N := 8) hx hb ht i_FO hown hK hP 0 rfl rfl 6 (by decide) (ht _ q_1_80) (fun _ h9 => h9) rfl d_FO_resize_16 ?_
  refine lv_ldc (own := R_FO) (v := nI (8388608)) hx hb hown (ht _ q_2_138) d_FO_resize_19 ?_
  refine lv_icmp_lt (tgt := 56) hx hb d_FO_resize_21 (by decide) (fun c0 => ?_) (fun c0 => ?_)
  · have c_21 : s0 / 2 ^ i < 8388608 := (nI_ltI (a := s0 / 2 ^ i) (b := 8388608) (by omega) (by omega)).mp c0
    have hz := (fm_h_iff hs hI_15).mp c_21
    rw [hz] at hP hD
    exact W.vret hx hb hr (fun t ht hW => ⟨rfl, by rw [ht]; exact hP, hS.F ht⟩) hS.2.2 d_FO_resize_56
  · have c_21 : ¬ (s0 / 2 ^ i < 8388608) := fun z => c0 ((nI_ltI (a := s0 / 2 ^ i) (b := 8388608) (by omega) (by omega)).mpr z)
    have hne : i ≠ fm_h s0 := fun z => c_21 ((fm_h_iff hs hI_15).mpr z)
    refine lv_aload_n hx hb d_FO_resize_24 rfl (lv_at hl 0 rfl) ?_
    refine va_get (D := (dC, dI)) (ci := 1) (v := .int (nI (i))) (C := R_FO) (T := F_FO) (N := 8) hx hb ht i_FO hown hK hP 0 rfl rfl 7 (by decide) (ht _ q_1_81) (fun _ h9 => h9) rfl d_FO_resize_25 ?_
    refine lv_bipush (v := nI (20)) hx hb d_FO_resize_28 (by decide) ?_
    refine lv_icmp_ge (tgt := 56) hx hb d_FO_resize_30 (by decide) (fun c0 => ?_) (fun c0 => ?_)
    · have c_30 : 20 ≤ i := (nI_leI (a := 20) (b := i) (by omega) (by omega)).mp c0
      exact absurd c_30 (by omega)
    · have c_30 : ¬ (20 ≤ i) := fun z => c0 ((nI_leI (a := 20) (b := i) (by omega) (by omega)).mpr z)
      refine lv_aload_n hx hb d_FO_resize_33 rfl (lv_at hl 0 rfl) ?_
      refine lv_aload_n hx hb d_FO_resize_34 rfl (lv_at hl 0 rfl) ?_
      refine va_get (D := (dC, dI)) (ci := 1) (v := .int (nI (s0 / 2 ^ i))) (C := R_FO) (T := F_FO) (N := 8) hx hb ht i_FO hown hK hP 0 rfl rfl 6 (by decide) (ht _ q_1_80) (fun _ h9 => h9) rfl d_FO_resize_35 ?_
      refine lv_iconst (v := nI (2)) hx hb d_FO_resize_38 (by decide) ?_
      refine lv_idiv hx hb d_FO_resize_39 (by decide) ?_
      refine fm_tw (z := nI ((s0 / 2 ^ i) / 2)) (pk_div (by omega) (by omega) (by omega)) ?_
      refine va_put (D := (dC, dI)) (ci := 1) (v := .int (nI ((s0 / 2 ^ i) / 2))) (ty := .int) (C := R_FO) (T := F_FO) (N := 8) hx hb ht i_FO t_FO t_FO_ok n_FO hown hK hP hD hS 0 rfl rfl 6 (by decide) (ht _ q_1_80) (fun _ h9 => h9) rfl (by decide +kernel) (rfl) (rfl) (Nat.le_of_ble_eq_true rfl) d_FO_resize_40 (fun H locs hP hD hS => ?_)
      have hP : va_P (dC, dI) classes [(o, .inr (1, [.ref wa, .ref sa, .ref la, .int (bc), .int (ec), .int (nI (s0)), .int (nI ((s0 / 2 ^ i) / 2)), .int (nI (i))]))] _ := hP
      have hD : va_D A [(o, .inr (1, [.ref wa, .ref sa, .ref la, .int (bc), .int (ec), .int (nI (s0)), .int (nI ((s0 / 2 ^ i) / 2)), .int (nI (i))]))] := hD
      refine lv_aload_n hx hb d_FO_resize_43 rfl (lv_at hl 0 rfl) ?_
      refine lv_dup hx hb d_FO_resize_44 rfl ?_
      refine va_get (D := (dC, dI)) (ci := 1) (v := .int (nI (i))) (C := R_FO) (T := F_FO) (N := 8) hx hb ht i_FO hown hK hP 0 rfl rfl 7 (by decide) (ht _ q_1_81) (fun _ h9 => h9) rfl d_FO_resize_45 ?_
      refine lv_iconst (v := nI (1)) hx hb d_FO_resize_48 (by decide) ?_
      refine lv_iadd hx hb d_FO_resize_49 ?_
      refine fm_tw (z := nI (i + 1)) (nI_add _ _) ?_
      refine va_put (D := (dC, dI)) (ci := 1) (v := .int (nI (i + 1))) (ty := .int) (C := R_FO) (T := F_FO) (N := 8) hx hb ht i_FO t_FO t_FO_ok n_FO hown hK hP hD hS 0 rfl rfl 7 (by decide) (ht _ q_1_81) (fun _ h9 => h9) rfl (by decide +kernel) (rfl) (rfl) (Nat.le_of_ble_eq_true rfl) d_FO_resize_50 (fun H locs hP hD hS => ?_)
      have hP : va_P (dC, dI) classes [(o, .inr (1, [.ref wa, .ref sa, .ref la, .int (bc), .int (ec), .int (nI (s0)), .int (nI ((s0 / 2 ^ i) / 2)), .int (nI (i + 1))]))] _ := hP
      have hD : va_D A [(o, .inr (1, [.ref wa, .ref sa, .ref la, .int (bc), .int (ec), .int (nI (s0)), .int (nI ((s0 / 2 ^ i) / 2)), .int (nI (i + 1))]))] := hD
      refine lv_goto (tgt := 15) hx hb d_FO_resize_53 (by decide) ?_
      exact ih_15 (i + 1) H locs ls (by omega) (by omega) (by rw [fm_h_half] at hP; exact hP) (by rw [fm_h_half] at hD; exact hD) hS (lv_sub hl [0] rfl)
theorem d_LI_clear_0 : decode b_LI_clear 0 = .ok (.aload_n 0, 1) := by decide +kernel
theorem d_LI_clear_1 : decode b_LI_clear 1 = .ok (.iconst 0, 1) := by decide +kernel
theorem d_LI_clear_2 : decode b_LI_clear 2 = .ok (.putfield 22, 3) := by decide +kernel
theorem d_LI_clear_5 : decode b_LI_clear 5 = .ok (.aload_n 0, 1) := by decide +kernel
theorem d_LI_clear_6 : decode b_LI_clear 6 = .ok (.iconst 0, 1) := by decide +kernel
theorem d_LI_clear_7 : decode b_LI_clear 7 = .ok (.putfield 26, 3) := by decide +kernel
theorem d_LI_clear_10 : decode b_LI_clear 10 = .ok (.return_, 1) := by decide +kernel
set_option maxHeartbeats 4000000 in
set_option maxRecDepth 100000 in
theorem c_LI_clear (l : Launch) (dC : Nat → ClassId) (dI : Nat → Nat → Nat) (q : Nat) (pa : Nat) (va : Nat) (na : Nat) (le : Int32) (co : Int32)  : fm_MW l (dC, dI) y_LI_clear w_LI_clear ({ frames := 0, cells := 0, slots := 0, locals := 0 }) [.ref q] [(q, .inr (2, [.ref pa, .ref va, .ref na, .int (le), .int (co)]))] [(q, .inr (2, [.ref pa, .ref va, .ref na, .int (nI (0)), .int (nI (0))]))] [] none := by
  refine Met.ofW (cc := b_LI_clear) (maxL := 1) (ret := none) (by decide) rfl ?_
  intro pg ev s m args below meth cd s₁ BD hml hv
  obtain ⟨rfl, hP, hK, hD0⟩ := hv
  have hx := BD.exec
  have hb := BD.bytes
  have hr := BD.returns
  have hts := atoms_spec (ws := w_LI_clear) BD.pre
  have ht : ∀ w ∈ fm_T, w.before _ s = true := fun w h => hts w (List.mem_cons_of_mem _ h)
  have hown : s.vm.findClass R_LI = some m.cls := findClass_of_methodNamed BD.named
  have hlocks := BD.notSynchronized
  have S : CallFix pg m cd b_LI_clear 1 s _ w_LI_clear R_LI := ⟨hx, hb, hml, hown, hts⟩
  have hD := fm_selfD hD0
  generalize fm_A [(q, .inr (2, [.ref pa, .ref va, .ref na, .int (le), .int (co)]))] = A at hD ⊢
  have hS : va_S A s.heap s.heap [] := va_S.rf
  have hl := lv_entry ([.ref q]) (n := 1) (Nat.le_of_ble_eq_true rfl)
  rw [lg_entry_eq]
  generalize (lg_sl ([.ref q]) ++ List.replicate (1 - (lg_sl ([.ref q])).length) Slot.unset).toArray = ls at hl ⊢
  have hl : lv_has ls 1 [(0, .ref q)] := hl
  refine lv_aload_n hx hb d_LI_clear_0 rfl (lv_at hl 0 rfl) ?_
  refine lv_iconst (v := nI (0)) hx hb d_LI_clear_1 (by decide) ?_
  refine va_put (D := (dC, dI)) (ci := 2) (v := .int (nI (0))) (ty := .int) (C := R_LI) (T := F_LI) (N := 5) hx hb ht i_LI t_LI t_LI_ok n_LI hown hK hP hD hS 0 rfl rfl 3 (by decide) (ht _ q_1_48) (fun _ h9 => h9) rfl (by decide +kernel) (rfl) (rfl) (Nat.le_of_ble_eq_true rfl) d_LI_clear_2 (fun H locs hP hD hS => ?_)
  have hP : va_P (dC, dI) classes [(q, .inr (2, [.ref pa, .ref va, .ref na, .int (nI (0)), .int (co)]))] _ := hP
  have hD : va_D A [(q, .inr (2, [.ref pa, .ref va, .ref na, .int (nI (0)), .int (co)]))] := hD
  refine lv_aload_n hx hb d_LI_clear_5 rfl (lv_at hl 0 rfl) ?_
  refine lv_iconst (v := nI (0)) hx hb d_LI_clear_6 (by decide) ?_
  refine va_put (D := (dC, dI)) (ci := 2) (v := .int (nI (0))) (ty := .int) (C := R_LI) (T := F_LI) (N := 5) hx hb ht i_LI t_LI t_LI_ok n_LI hown hK hP hD hS 0 rfl rfl 4 (by decide) (ht _ q_1_49) (fun _ h9 => h9) rfl (by decide +kernel) (rfl) (rfl) (Nat.le_of_ble_eq_true rfl) d_LI_clear_7 (fun H locs hP hD hS => ?_)
  have hP : va_P (dC, dI) classes [(q, .inr (2, [.ref pa, .ref va, .ref na, .int (nI (0)), .int (nI (0))]))] _ := hP
  have hD : va_D A [(q, .inr (2, [.ref pa, .ref va, .ref na, .int (nI (0)), .int (nI (0))]))] := hD
  exact W.vret hx hb hr (fun t ht hW => ⟨rfl, by rw [ht]; exact hP, hS.F ht⟩) hS.2.2 d_LI_clear_10
theorem d_LI_push_0 : decode b_LI_push 0 = .ok (.aload_n 0, 1) := by decide +kernel
theorem d_LI_push_1 : decode b_LI_push 1 = .ok (.getfield 22, 3) := by decide +kernel
theorem d_LI_push_4 : decode b_LI_push 4 = .ok (.ifCond .lt 35, 3) := by decide +kernel
theorem d_LI_push_7 : decode b_LI_push 7 = .ok (.aload_n 0, 1) := by decide +kernel
theorem d_LI_push_8 : decode b_LI_push 8 = .ok (.getfield 22, 3) := by decide +kernel
theorem d_LI_push_11 : decode b_LI_push 11 = .ok (.aload_n 0, 1) := by decide +kernel
theorem d_LI_push_12 : decode b_LI_push 12 = .ok (.getfield 11, 3) := by decide +kernel
theorem d_LI_push_15 : decode b_LI_push 15 = .ok (.arraylength, 1) := by decide +kernel
theorem d_LI_push_16 : decode b_LI_push 16 = .ok (.if_icmp .ge 23, 3) := by decide +kernel
theorem d_LI_push_19 : decode b_LI_push 19 = .ok (.aload_n 0, 1) := by decide +kernel
theorem d_LI_push_20 : decode b_LI_push 20 = .ok (.getfield 11, 3) := by decide +kernel
theorem d_LI_push_23 : decode b_LI_push 23 = .ok (.aload_n 0, 1) := by decide +kernel
theorem d_LI_push_24 : decode b_LI_push 24 = .ok (.getfield 22, 3) := by decide +kernel
theorem d_LI_push_27 : decode b_LI_push 27 = .ok (.iload_n 1, 1) := by decide +kernel
theorem d_LI_push_28 : decode b_LI_push 28 = .ok (.iastore, 1) := by decide +kernel
theorem d_LI_push_29 : decode b_LI_push 29 = .ok (.aload_n 0, 1) := by decide +kernel
theorem d_LI_push_30 : decode b_LI_push 30 = .ok (.dup, 1) := by decide +kernel
theorem d_LI_push_31 : decode b_LI_push 31 = .ok (.getfield 22, 3) := by decide +kernel
theorem d_LI_push_34 : decode b_LI_push 34 = .ok (.iconst 1, 1) := by decide +kernel
theorem d_LI_push_35 : decode b_LI_push 35 = .ok (.iadd, 1) := by decide +kernel
theorem d_LI_push_36 : decode b_LI_push 36 = .ok (.putfield 22, 3) := by decide +kernel
theorem d_LI_push_39 : decode b_LI_push 39 = .ok (.return_, 1) := by decide +kernel
set_option maxHeartbeats 4000000 in
set_option maxRecDepth 100000 in
theorem c_LI_push (l : Launch) (dC : Nat → ClassId) (dI : Nat → Nat → Nat) (q : Nat) (pa : Nat) (va : Nat) (na : Nat) (le : Nat) (co : Int32) (cI : ClassId) (pd : Nat → Int32) (v : Int32) (hle : le < 1066) : fm_MW l (dC, dI) y_LI_push w_LI_push ({ frames := 0, cells := 0, slots := 0, locals := 0 }) [.ref q, .int (v)] [(q, .inr (2, [.ref pa, .ref va, .ref na, .int (nI (le)), .int (co)])), (pa, .inl (cI, 1066, .inl (pd)))] [(q, .inr (2, [.ref pa, .ref va, .ref na, .int (nI (le + 1)), .int (co)])), (pa, .inl (cI, 1066, .inl (upd pd le v)))] [(cI, .int)] none := by
  refine Met.ofW (cc := b_LI_push) (maxL := 2) (ret := none) (by decide) rfl ?_
  intro pg ev s m args below meth cd s₁ BD hml hv
  obtain ⟨rfl, hP, hK, hD0⟩ := hv
  have hx := BD.exec
  have hb := BD.bytes
  have hr := BD.returns
  have hts := atoms_spec (ws := w_LI_push) BD.pre
  have ht : ∀ w ∈ fm_T, w.before _ s = true := fun w h => hts w (List.mem_cons_of_mem _ h)
  have hown : s.vm.findClass R_LI = some m.cls := findClass_of_methodNamed BD.named
  have hlocks := BD.notSynchronized
  have S : CallFix pg m cd b_LI_push 2 s _ w_LI_push R_LI := ⟨hx, hb, hml, hown, hts⟩
  have hD := fm_selfD hD0
  generalize fm_A [(q, .inr (2, [.ref pa, .ref va, .ref na, .int (nI (le)), .int (co)])), (pa, .inl (cI, 1066, .inl (pd)))] = A at hD ⊢
  have hS : va_S A s.heap s.heap [] := va_S.rf
  have hl := lv_entry ([.ref q, .int (v)]) (n := 2) (Nat.le_of_ble_eq_true rfl)
  rw [lg_entry_eq]
  generalize (lg_sl ([.ref q, .int (v)]) ++ List.replicate (2 - (lg_sl ([.ref q, .int (v)])).length) Slot.unset).toArray = ls at hl ⊢
  have hl : lv_has ls 2 [(0, .ref q), (1, .int (v))] := hl
  refine lv_aload_n hx hb d_LI_push_0 rfl (lv_at hl 0 rfl) ?_
  refine va_get (D := (dC, dI)) (ci := 2) (v := .int (nI (le))) (C := R_LI) (T := F_LI) (N := 5) hx hb ht i_LI hown hK hP 0 rfl rfl 3 (by decide) (ht _ q_1_48) (fun _ h9 => h9) rfl d_LI_push_1 ?_
  refine lv_if_lt (tgt := 39) hx hb d_LI_push_4 (by decide) (fun c0 => ?_) (fun c0 => ?_)
  · have c_4 : le < 0 := (nI_ltI (a := le) (b := 0) (by omega) (by omega)).mp c0
    exact absurd c_4 (by omega)
  · have c_4 : ¬ (le < 0) := fun z => c0 ((nI_ltI (a := le) (b := 0) (by omega) (by omega)).mpr z)
    refine lv_aload_n hx hb d_LI_push_7 rfl (lv_at hl 0 rfl) ?_
    refine va_get (D := (dC, dI)) (ci := 2) (v := .int (nI (le))) (C := R_LI) (T := F_LI) (N := 5) hx hb ht i_LI hown hK hP 0 rfl rfl 3 (by decide) (ht _ q_1_48) (fun _ h9 => h9) rfl d_LI_push_8 ?_
    refine lv_aload_n hx hb d_LI_push_11 rfl (lv_at hl 0 rfl) ?_
    refine va_get (D := (dC, dI)) (ci := 2) (v := .ref pa) (C := R_LI) (T := F_LI) (N := 5) hx hb ht i_LI hown hK hP 0 rfl rfl 0 (by decide) (ht _ q_1_45) (fun _ h9 => h9) rfl d_LI_push_12 ?_
    refine va_alen hx hb hK hP 1 0 rfl rfl (v := nI (1066)) rfl d_LI_push_15 ?_
    refine lv_icmp_ge (tgt := 39) hx hb d_LI_push_16 (by decide) (fun c0 => ?_) (fun c0 => ?_)
    · have c_16 : 1066 ≤ le := (nI_leI (a := 1066) (b := le) (by omega) (by omega)).mp c0
      exact absurd c_16 (by omega)
    · have c_16 : ¬ (1066 ≤ le) := fun z => c0 ((nI_leI (a := 1066) (b := le) (by omega) (by omega)).mpr z)
      refine lv_aload_n hx hb d_LI_push_19 rfl (lv_at hl 0 rfl) ?_
      refine va_get (D := (dC, dI)) (ci := 2) (v := .ref pa) (C := R_LI) (T := F_LI) (N := 5) hx hb ht i_LI hown hK hP 0 rfl rfl 0 (by decide) (ht _ q_1_45) (fun _ h9 => h9) rfl d_LI_push_20 ?_
      refine lv_aload_n hx hb d_LI_push_23 rfl (lv_at hl 0 rfl) ?_
      refine va_get (D := (dC, dI)) (ci := 2) (v := .int (nI (le))) (C := R_LI) (T := F_LI) (N := 5) hx hb ht i_LI hown hK hP 0 rfl rfl 3 (by decide) (ht _ q_1_48) (fun _ h9 => h9) rfl d_LI_push_24 ?_
      refine lv_iload_n hx hb d_LI_push_27 rfl (lv_at hl 1 rfl) ?_
      refine va_iast hx hb hK hP hD hS 1 0 rfl rfl (vp_in_nI (by omega) (by omega)) d_LI_push_28 (fun H locs hP hD hS => ?_)
      have hP : va_P (dC, dI) classes [(q, .inr (2, [.ref pa, .ref va, .ref na, .int (nI (le)), .int (co)])), (pa, .inl (cI, 1066, .inl (upd pd (nI (le)).toNatClampNeg ((v)))))] _ := hP
      have hD : va_D A [(q, .inr (2, [.ref pa, .ref va, .ref na, .int (nI (le)), .int (co)])), (pa, .inl (cI, 1066, .inl (upd pd (nI (le)).toNatClampNeg ((v)))))] := hD
      rw [nI_clamp (show le < 2 ^ 31 by omega)] at hP hD
      have hP : va_P (dC, dI) classes [(q, .inr (2, [.ref pa, .ref va, .ref na, .int (nI (le)), .int (co)])), (pa, .inl (cI, 1066, .inl (upd pd (le) ((v)))))] _ := hP
      have hD : va_D A [(q, .inr (2, [.ref pa, .ref va, .ref na, .int (nI (le)), .int (co)])), (pa, .inl (cI, 1066, .inl (upd pd (le) ((v)))))] := hD
      refine lv_aload_n hx hb d_LI_push_29 rfl (lv_at hl 0 rfl) ?_
      refine lv_dup hx hb d_LI_push_30 rfl ?_
      refine va_get (D := (dC, dI)) (ci := 2) (v := .int (nI (le))) (C := R_LI) (T := F_LI) (N := 5) hx hb ht i_LI hown hK hP 0 rfl rfl 3 (by decide) (ht _ q_1_48) (fun _ h9 => h9) rfl d_LI_push_31 ?_
      refine lv_iconst (v := nI (1)) hx hb d_LI_push_34 (by decide) ?_
      refine lv_iadd hx hb d_LI_push_35 ?_
      refine fm_tw (z := nI (le + 1)) (nI_add _ _) ?_
      refine va_put (D := (dC, dI)) (ci := 2) (v := .int (nI (le + 1))) (ty := .int) (C := R_LI) (T := F_LI) (N := 5) hx hb ht i_LI t_LI t_LI_ok n_LI hown hK hP hD hS 0 rfl rfl 3 (by decide) (ht _ q_1_48) (fun _ h9 => h9) rfl (by decide +kernel) (rfl) (rfl) (Nat.le_of_ble_eq_true rfl) d_LI_push_36 (fun H locs hP hD hS => ?_)
      have hP : va_P (dC, dI) classes [(q, .inr (2, [.ref pa, .ref va, .ref na, .int (nI (le + 1)), .int (co)])), (pa, .inl (cI, 1066, .inl (upd pd (le) ((v)))))] _ := hP
      have hD : va_D A [(q, .inr (2, [.ref pa, .ref va, .ref na, .int (nI (le + 1)), .int (co)])), (pa, .inl (cI, 1066, .inl (upd pd (le) ((v)))))] := hD
      exact W.vret hx hb hr (fun t ht hW => ⟨rfl, by rw [ht]; exact hP, hS.F ht⟩) hS.2.2 d_LI_push_39
theorem d_LI_append_0 : decode b_LI_append 0 = .ok (.aload_n 0, 1) := by decide +kernel
theorem d_LI_append_1 : decode b_LI_append 1 = .ok (.getfield 26, 3) := by decide +kernel
theorem d_LI_append_4 : decode b_LI_append 4 = .ok (.ifCond .lt 57, 3) := by decide +kernel
theorem d_LI_append_7 : decode b_LI_append 7 = .ok (.aload_n 0, 1) := by decide +kernel
theorem d_LI_append_8 : decode b_LI_append 8 = .ok (.getfield 26, 3) := by decide +kernel
theorem d_LI_append_11 : decode b_LI_append 11 = .ok (.aload_n 0, 1) := by decide +kernel
theorem d_LI_append_12 : decode b_LI_append 12 = .ok (.getfield 15, 3) := by decide +kernel
theorem d_LI_append_15 : decode b_LI_append 15 = .ok (.arraylength, 1) := by decide +kernel
theorem d_LI_append_16 : decode b_LI_append 16 = .ok (.if_icmp .ge 45, 3) := by decide +kernel
theorem d_LI_append_19 : decode b_LI_append 19 = .ok (.aload_n 0, 1) := by decide +kernel
theorem d_LI_append_20 : decode b_LI_append 20 = .ok (.getfield 26, 3) := by decide +kernel
theorem d_LI_append_23 : decode b_LI_append 23 = .ok (.aload_n 0, 1) := by decide +kernel
theorem d_LI_append_24 : decode b_LI_append 24 = .ok (.getfield 18, 3) := by decide +kernel
theorem d_LI_append_27 : decode b_LI_append 27 = .ok (.arraylength, 1) := by decide +kernel
theorem d_LI_append_28 : decode b_LI_append 28 = .ok (.if_icmp .ge 33, 3) := by decide +kernel
theorem d_LI_append_31 : decode b_LI_append 31 = .ok (.aload_n 0, 1) := by decide +kernel
theorem d_LI_append_32 : decode b_LI_append 32 = .ok (.getfield 15, 3) := by decide +kernel
theorem d_LI_append_35 : decode b_LI_append 35 = .ok (.aload_n 0, 1) := by decide +kernel
theorem d_LI_append_36 : decode b_LI_append 36 = .ok (.getfield 26, 3) := by decide +kernel
theorem d_LI_append_39 : decode b_LI_append 39 = .ok (.iload_n 1, 1) := by decide +kernel
theorem d_LI_append_40 : decode b_LI_append 40 = .ok (.iastore, 1) := by decide +kernel
theorem d_LI_append_41 : decode b_LI_append 41 = .ok (.aload_n 0, 1) := by decide +kernel
theorem d_LI_append_42 : decode b_LI_append 42 = .ok (.getfield 18, 3) := by decide +kernel
theorem d_LI_append_45 : decode b_LI_append 45 = .ok (.aload_n 0, 1) := by decide +kernel
theorem d_LI_append_46 : decode b_LI_append 46 = .ok (.getfield 26, 3) := by decide +kernel
theorem d_LI_append_49 : decode b_LI_append 49 = .ok (.iload_n 2, 1) := by decide +kernel
theorem d_LI_append_50 : decode b_LI_append 50 = .ok (.bastore, 1) := by decide +kernel
theorem d_LI_append_51 : decode b_LI_append 51 = .ok (.aload_n 0, 1) := by decide +kernel
theorem d_LI_append_52 : decode b_LI_append 52 = .ok (.dup, 1) := by decide +kernel
theorem d_LI_append_53 : decode b_LI_append 53 = .ok (.getfield 26, 3) := by decide +kernel
theorem d_LI_append_56 : decode b_LI_append 56 = .ok (.iconst 1, 1) := by decide +kernel
theorem d_LI_append_57 : decode b_LI_append 57 = .ok (.iadd, 1) := by decide +kernel
theorem d_LI_append_58 : decode b_LI_append 58 = .ok (.putfield 26, 3) := by decide +kernel
theorem d_LI_append_61 : decode b_LI_append 61 = .ok (.return_, 1) := by decide +kernel
set_option maxHeartbeats 4000000 in
set_option maxRecDepth 100000 in
theorem c_LI_append (l : Launch) (dC : Nat → ClassId) (dI : Nat → Nat → Nat) (q : Nat) (pa : Nat) (va : Nat) (na : Nat) (le : Int32) (co : Nat) (cI : ClassId) (cZ : ClassId) (vl : Nat → Int32) (kn : Nat → Int32) (v : Int32) (bk : Bool) (hco : co < 1066) : fm_MW l (dC, dI) y_LI_append w_LI_append ({ frames := 0, cells := 0, slots := 0, locals := 0 }) [.ref q, .int (v), .int (fm_bI bk)] [(q, .inr (2, [.ref pa, .ref va, .ref na, .int (le), .int (nI (co))])), (va, .inl (cI, 1066, .inl (vl))), (na, .inl (cZ, 1066, .inl (kn)))] [(q, .inr (2, [.ref pa, .ref va, .ref na, .int (le), .int (nI (co + 1))])), (va, .inl (cI, 1066, .inl (upd vl co v))), (na, .inl (cZ, 1066, .inl (upd kn co (fm_bI bk))))] [(cI, .int), (cZ, .boolean)] none := by
  refine Met.ofW (cc := b_LI_append) (maxL := 3) (ret := none) (by decide) rfl ?_
  intro pg ev s m args below meth cd s₁ BD hml hv
  obtain ⟨rfl, hP, hK, hD0⟩ := hv
  have hx := BD.exec
  have hb := BD.bytes
  have hr := BD.returns
  have hts := atoms_spec (ws := w_LI_append) BD.pre
  have ht : ∀ w ∈ fm_T, w.before _ s = true := fun w h => hts w (List.mem_cons_of_mem _ h)
  have hown : s.vm.findClass R_LI = some m.cls := findClass_of_methodNamed BD.named
  have hlocks := BD.notSynchronized
  have S : CallFix pg m cd b_LI_append 3 s _ w_LI_append R_LI := ⟨hx, hb, hml, hown, hts⟩
  have hD := fm_selfD hD0
  generalize fm_A [(q, .inr (2, [.ref pa, .ref va, .ref na, .int (le), .int (nI (co))])), (va, .inl (cI, 1066, .inl (vl))), (na, .inl (cZ, 1066, .inl (kn)))] = A at hD ⊢
  have hS : va_S A s.heap s.heap [] := va_S.rf
  have hl := lv_entry ([.ref q, .int (v), .int (fm_bI bk)]) (n := 3) (Nat.le_of_ble_eq_true rfl)
  rw [lg_entry_eq]
  generalize (lg_sl ([.ref q, .int (v), .int (fm_bI bk)]) ++ List.replicate (3 - (lg_sl ([.ref q, .int (v), .int (fm_bI bk)])).length) Slot.unset).toArray = ls at hl ⊢
  have hl : lv_has ls 3 [(0, .ref q), (1, .int (v)), (2, .int (fm_bI bk))] := hl
  refine lv_aload_n hx hb d_LI_append_0 rfl (lv_at hl 0 rfl) ?_
  refine va_get (D := (dC, dI)) (ci := 2) (v := .int (nI (co))) (C := R_LI) (T := F_LI) (N := 5) hx hb ht i_LI hown hK hP 0 rfl rfl 4 (by decide) (ht _ q_1_49) (fun _ h9 => h9) rfl d_LI_append_1 ?_
  refine lv_if_lt (tgt := 61) hx hb d_LI_append_4 (by decide) (fun c0 => ?_) (fun c0 => ?_)
  · have c_4 : co < 0 := (nI_ltI (a := co) (b := 0) (by omega) (by omega)).mp c0
    exact absurd c_4 (by omega)
  · have c_4 : ¬ (co < 0) := fun z => c0 ((nI_ltI (a := co) (b := 0) (by omega) (by omega)).mpr z)
    refine lv_aload_n hx hb d_LI_append_7 rfl (lv_at hl 0 rfl) ?_
    refine va_get (D := (dC, dI)) (ci := 2) (v := .int (nI (co))) (C := R_LI) (T := F_LI) (N := 5) hx hb ht i_LI hown hK hP 0 rfl rfl 4 (by decide) (ht _ q_1_49) (fun _ h9 => h9) rfl d_LI_append_8 ?_
    refine lv_aload_n hx hb d_LI_append_11 rfl (lv_at hl 0 rfl) ?_
    refine va_get (D := (dC, dI)) (ci := 2) (v := .ref va) (C := R_LI) (T := F_LI) (N := 5) hx hb ht i_LI hown hK hP 0 rfl rfl 1 (by decide) (ht _ q_1_46) (fun _ h9 => h9) rfl d_LI_append_12 ?_
    refine va_alen hx hb hK hP 1 0 rfl rfl (v := nI (1066)) rfl d_LI_append_15 ?_
    refine lv_icmp_ge (tgt := 61) hx hb d_LI_append_16 (by decide) (fun c0 => ?_) (fun c0 => ?_)
    · have c_16 : 1066 ≤ co := (nI_leI (a := 1066) (b := co) (by omega) (by omega)).mp c0
      exact absurd c_16 (by omega)
    · have c_16 : ¬ (1066 ≤ co) := fun z => c0 ((nI_leI (a := 1066) (b := co) (by omega) (by omega)).mpr z)
      refine lv_aload_n hx hb d_LI_append_19 rfl (lv_at hl 0 rfl) ?_
      refine va_get (D := (dC, dI)) (ci := 2) (v := .int (nI (co))) (C := R_LI) (T := F_LI) (N := 5) hx hb ht i_LI hown hK hP 0 rfl rfl 4 (by decide) (ht _ q_1_49) (fun _ h9 => h9) rfl d_LI_append_20 ?_
      refine lv_aload_n hx hb d_LI_append_23 rfl (lv_at hl 0 rfl) ?_
      refine va_get (D := (dC, dI)) (ci := 2) (v := .ref na) (C := R_LI) (T := F_LI) (N := 5) hx hb ht i_LI hown hK hP 0 rfl rfl 2 (by decide) (ht _ q_1_47) (fun _ h9 => h9) rfl d_LI_append_24 ?_
      refine va_alen hx hb hK hP 2 1 rfl rfl (v := nI (1066)) rfl d_LI_append_27 ?_
      refine lv_icmp_ge (tgt := 61) hx hb d_LI_append_28 (by decide) (fun c0 => ?_) (fun c0 => ?_)
      · have c_28 : 1066 ≤ co := (nI_leI (a := 1066) (b := co) (by omega) (by omega)).mp c0
        exact absurd c_28 (by omega)
      · have c_28 : ¬ (1066 ≤ co) := fun z => c0 ((nI_leI (a := 1066) (b := co) (by omega) (by omega)).mpr z)
        refine lv_aload_n hx hb d_LI_append_31 rfl (lv_at hl 0 rfl) ?_
        refine va_get (D := (dC, dI)) (ci := 2) (v := .ref va) (C := R_LI) (T := F_LI) (N := 5) hx hb ht i_LI hown hK hP 0 rfl rfl 1 (by decide) (ht _ q_1_46) (fun _ h9 => h9) rfl d_LI_append_32 ?_
        refine lv_aload_n hx hb d_LI_append_35 rfl (lv_at hl 0 rfl) ?_
        refine va_get (D := (dC, dI)) (ci := 2) (v := .int (nI (co))) (C := R_LI) (T := F_LI) (N := 5) hx hb ht i_LI hown hK hP 0 rfl rfl 4 (by decide) (ht _ q_1_49) (fun _ h9 => h9) rfl d_LI_append_36 ?_
        refine lv_iload_n hx hb d_LI_append_39 rfl (lv_at hl 1 rfl) ?_
        refine va_iast hx hb hK hP hD hS 1 0 rfl rfl (vp_in_nI (by omega) (by omega)) d_LI_append_40 (fun H locs hP hD hS => ?_)
        have hP : va_P (dC, dI) classes [(q, .inr (2, [.ref pa, .ref va, .ref na, .int (le), .int (nI (co))])), (va, .inl (cI, 1066, .inl (upd vl (nI (co)).toNatClampNeg ((v))))), (na, .inl (cZ, 1066, .inl (kn)))] _ := hP
        have hD : va_D A [(q, .inr (2, [.ref pa, .ref va, .ref na, .int (le), .int (nI (co))])), (va, .inl (cI, 1066, .inl (upd vl (nI (co)).toNatClampNeg ((v))))), (na, .inl (cZ, 1066, .inl (kn)))] := hD
        rw [nI_clamp (show co < 2 ^ 31 by omega)] at hP hD
        have hP : va_P (dC, dI) classes [(q, .inr (2, [.ref pa, .ref va, .ref na, .int (le), .int (nI (co))])), (va, .inl (cI, 1066, .inl (upd vl (co) ((v))))), (na, .inl (cZ, 1066, .inl (kn)))] _ := hP
        have hD : va_D A [(q, .inr (2, [.ref pa, .ref va, .ref na, .int (le), .int (nI (co))])), (va, .inl (cI, 1066, .inl (upd vl (co) ((v))))), (na, .inl (cZ, 1066, .inl (kn)))] := hD
        refine lv_aload_n hx hb d_LI_append_41 rfl (lv_at hl 0 rfl) ?_
        refine va_get (D := (dC, dI)) (ci := 2) (v := .ref na) (C := R_LI) (T := F_LI) (N := 5) hx hb ht i_LI hown hK hP 0 rfl rfl 2 (by decide) (ht _ q_1_47) (fun _ h9 => h9) rfl d_LI_append_42 ?_
        refine lv_aload_n hx hb d_LI_append_45 rfl (lv_at hl 0 rfl) ?_
        refine va_get (D := (dC, dI)) (ci := 2) (v := .int (nI (co))) (C := R_LI) (T := F_LI) (N := 5) hx hb ht i_LI hown hK hP 0 rfl rfl 4 (by decide) (ht _ q_1_49) (fun _ h9 => h9) rfl d_LI_append_46 ?_
        refine lv_iload_n hx hb d_LI_append_49 rfl (lv_at hl 2 rfl) ?_
        refine va_zast hx hb hK hP hD hS 2 1 rfl rfl (vp_in_nI (by omega) (by omega)) d_LI_append_50 (fun H locs hP hD hS => ?_)
        have hP : va_P (dC, dI) classes [(q, .inr (2, [.ref pa, .ref va, .ref na, .int (le), .int (nI (co))])), (va, .inl (cI, 1066, .inl (upd vl (co) ((v))))), (na, .inl (cZ, 1066, .inl (upd kn (nI (co)).toNatClampNeg (vp_nar .boolean ((fm_bI bk))))))] _ := hP
        have hD : va_D A [(q, .inr (2, [.ref pa, .ref va, .ref na, .int (le), .int (nI (co))])), (va, .inl (cI, 1066, .inl (upd vl (co) ((v))))), (na, .inl (cZ, 1066, .inl (upd kn (nI (co)).toNatClampNeg (vp_nar .boolean ((fm_bI bk))))))] := hD
        rw [nI_clamp (show co < 2 ^ 31 by omega), fm_narz] at hP hD
        have hP : va_P (dC, dI) classes [(q, .inr (2, [.ref pa, .ref va, .ref na, .int (le), .int (nI (co))])), (va, .inl (cI, 1066, .inl (upd vl (co) ((v))))), (na, .inl (cZ, 1066, .inl (upd kn (co) ((fm_bI bk)))))] _ := hP
        have hD : va_D A [(q, .inr (2, [.ref pa, .ref va, .ref na, .int (le), .int (nI (co))])), (va, .inl (cI, 1066, .inl (upd vl (co) ((v))))), (na, .inl (cZ, 1066, .inl (upd kn (co) ((fm_bI bk)))))] := hD
        refine lv_aload_n hx hb d_LI_append_51 rfl (lv_at hl 0 rfl) ?_
        refine lv_dup hx hb d_LI_append_52 rfl ?_
        refine va_get (D := (dC, dI)) (ci := 2) (v := .int (nI (co))) (C := R_LI) (T := F_LI) (N := 5) hx hb ht i_LI hown hK hP 0 rfl rfl 4 (by decide) (ht _ q_1_49) (fun _ h9 => h9) rfl d_LI_append_53 ?_
        refine lv_iconst (v := nI (1)) hx hb d_LI_append_56 (by decide) ?_
        refine lv_iadd hx hb d_LI_append_57 ?_
        refine fm_tw (z := nI (co + 1)) (nI_add _ _) ?_
        refine va_put (D := (dC, dI)) (ci := 2) (v := .int (nI (co + 1))) (ty := .int) (C := R_LI) (T := F_LI) (N := 5) hx hb ht i_LI t_LI t_LI_ok n_LI hown hK hP hD hS 0 rfl rfl 4 (by decide) (ht _ q_1_49) (fun _ h9 => h9) rfl (by decide +kernel) (rfl) (rfl) (Nat.le_of_ble_eq_true rfl) d_LI_append_58 (fun H locs hP hD hS => ?_)
        have hP : va_P (dC, dI) classes [(q, .inr (2, [.ref pa, .ref va, .ref na, .int (le), .int (nI (co + 1))])), (va, .inl (cI, 1066, .inl (upd vl (co) ((v))))), (na, .inl (cZ, 1066, .inl (upd kn (co) ((fm_bI bk)))))] _ := hP
        have hD : va_D A [(q, .inr (2, [.ref pa, .ref va, .ref na, .int (le), .int (nI (co + 1))])), (va, .inl (cI, 1066, .inl (upd vl (co) ((v))))), (na, .inl (cZ, 1066, .inl (upd kn (co) ((fm_bI bk)))))] := hD
        exact W.vret hx hb hr (fun t ht hW => ⟨rfl, by rw [ht]; exact hP, hS.F ht⟩) hS.2.2 d_LI_append_61
theorem d_LI_pendingAt_0 : decode b_LI_pendingAt 0 = .ok (.aload_n 0, 1) := by decide +kernel
theorem d_LI_pendingAt_1 : decode b_LI_pendingAt 1 = .ok (.getfield 22, 3) := by decide +kernel
theorem d_LI_pendingAt_4 : decode b_LI_pendingAt 4 = .ok (.iconst 1, 1) := by decide +kernel
theorem d_LI_pendingAt_5 : decode b_LI_pendingAt 5 = .ok (.isub, 1) := by decide +kernel
theorem d_LI_pendingAt_6 : decode b_LI_pendingAt 6 = .ok (.iload_n 1, 1) := by decide +kernel
theorem d_LI_pendingAt_7 : decode b_LI_pendingAt 7 = .ok (.isub, 1) := by decide +kernel
theorem d_LI_pendingAt_8 : decode b_LI_pendingAt 8 = .ok (.istore_n 2, 1) := by decide +kernel
theorem d_LI_pendingAt_9 : decode b_LI_pendingAt 9 = .ok (.iload_n 2, 1) := by decide +kernel
theorem d_LI_pendingAt_10 : decode b_LI_pendingAt 10 = .ok (.ifCond .lt 21, 3) := by decide +kernel
theorem d_LI_pendingAt_13 : decode b_LI_pendingAt 13 = .ok (.iload_n 2, 1) := by decide +kernel
theorem d_LI_pendingAt_14 : decode b_LI_pendingAt 14 = .ok (.aload_n 0, 1) := by decide +kernel
theorem d_LI_pendingAt_15 : decode b_LI_pendingAt 15 = .ok (.getfield 11, 3) := by decide +kernel
theorem d_LI_pendingAt_18 : decode b_LI_pendingAt 18 = .ok (.arraylength, 1) := by decide +kernel
theorem d_LI_pendingAt_19 : decode b_LI_pendingAt 19 = .ok (.if_icmp .ge 12, 3) := by decide +kernel
theorem d_LI_pendingAt_22 : decode b_LI_pendingAt 22 = .ok (.aload_n 0, 1) := by decide +kernel
theorem d_LI_pendingAt_23 : decode b_LI_pendingAt 23 = .ok (.getfield 11, 3) := by decide +kernel
theorem d_LI_pendingAt_26 : decode b_LI_pendingAt 26 = .ok (.iload_n 2, 1) := by decide +kernel
theorem d_LI_pendingAt_27 : decode b_LI_pendingAt 27 = .ok (.iaload, 1) := by decide +kernel
theorem d_LI_pendingAt_28 : decode b_LI_pendingAt 28 = .ok (.goto 6, 3) := by decide +kernel
theorem d_LI_pendingAt_31 : decode b_LI_pendingAt 31 = .ok (.sipush 256, 3) := by decide +kernel
theorem d_LI_pendingAt_34 : decode b_LI_pendingAt 34 = .ok (.ireturn, 1) := by decide +kernel
set_option maxHeartbeats 4000000 in
set_option maxRecDepth 100000 in
theorem c_LI_pendingAt (l : Launch) (dC : Nat → ClassId) (dI : Nat → Nat → Nat) (q : Nat) (pa : Nat) (va : Nat) (na : Nat) (le : Nat) (co : Int32) (cI : ClassId) (pd : Nat → Int32) (i : Nat) (hle : le ≤ 1066) (hi : i < le) : fm_M l (dC, dI) y_LI_pendingAt w_LI_pendingAt ({ frames := 0, cells := 0, slots := 0, locals := 0 }) [.ref q, .int (nI (i))] [(q, .inr (2, [.ref pa, .ref va, .ref na, .int (nI (le)), .int (co)])), (pa, .inl (cI, 1066, .inl (pd)))] [(cI, .int)] ((pd (le - 1 - i))) := by
  refine Met.ofW (cc := b_LI_pendingAt) (maxL := 3) (ret := (some .int)) (by decide) rfl ?_
  intro pg ev s m args below meth cd s₁ BD hml hv
  obtain ⟨rfl, hP, hK⟩ := hv
  have hx := BD.exec
  have hb := BD.bytes
  have hr := BD.returns
  have hts := atoms_spec (ws := w_LI_pendingAt) BD.pre
  have ht : ∀ w ∈ fm_T, w.before _ s = true := fun w h => hts w (List.mem_cons_of_mem _ h)
  have hown : s.vm.findClass R_LI = some m.cls := findClass_of_methodNamed BD.named
  have hlocks := BD.notSynchronized
  have S : CallFix pg m cd b_LI_pendingAt 3 s _ w_LI_pendingAt R_LI := ⟨hx, hb, hml, hown, hts⟩
  have hl := lv_entry ([.ref q, .int (nI (i))]) (n := 3) (Nat.le_of_ble_eq_true rfl)
  rw [lg_entry_eq]
  generalize (lg_sl ([.ref q, .int (nI (i))]) ++ List.replicate (3 - (lg_sl ([.ref q, .int (nI (i))])).length) Slot.unset).toArray = ls at hl ⊢
  have hl : lv_has ls 3 [(0, .ref q), (1, .int (nI (i)))] := hl
  refine lv_aload_n hx hb d_LI_pendingAt_0 rfl (lv_at hl 0 rfl) ?_
  refine va_get (D := (dC, dI)) (ci := 2) (v := .int (nI (le))) (C := R_LI) (T := F_LI) (N := 5) hx hb ht i_LI hown hK hP 0 rfl rfl 3 (by decide) (ht _ q_1_48) (fun _ h9 => h9) rfl d_LI_pendingAt_1 ?_
  refine lv_iconst (v := nI (1)) hx hb d_LI_pendingAt_4 (by decide) ?_
  refine lv_isub hx hb d_LI_pendingAt_5 ?_
  refine fm_tw (z := nI (le - 1)) (pk_sub (by omega)) ?_
  refine lv_iload_n hx hb d_LI_pendingAt_6 rfl (lv_at hl 1 rfl) ?_
  refine lv_isub hx hb d_LI_pendingAt_7 ?_
  refine fm_tw (z := nI (le - 1 - i)) (pk_sub (by omega)) ?_
  refine lv_istore_n (lv' := [(2, .int (nI (le - 1 - i))), (0, .ref q), (1, .int (nI (i)))]) hx hb d_LI_pendingAt_8 rfl hl (by decide) rfl (fun ls hl => ?_)
  refine lv_iload_n hx hb d_LI_pendingAt_9 rfl (lv_at hl 0 rfl) ?_
  refine lv_if_lt (tgt := 31) hx hb d_LI_pendingAt_10 (by decide) (fun c0 => ?_) (fun c0 => ?_)
  · have c_10 : le - 1 - i < 0 := (nI_ltI (a := le - 1 - i) (b := 0) (by omega) (by omega)).mp c0
    exact absurd c_10 (by omega)
  · have c_10 : ¬ (le - 1 - i < 0) := fun z => c0 ((nI_ltI (a := le - 1 - i) (b := 0) (by omega) (by omega)).mpr z)
    refine lv_iload_n hx hb d_LI_pendingAt_13 rfl (lv_at hl 0 rfl) ?_
    refine lv_aload_n hx hb d_LI_pendingAt_14 rfl (lv_at hl 1 rfl) ?_
    refine va_get (D := (dC, dI)) (ci := 2) (v := .ref pa) (C := R_LI) (T := F_LI) (N := 5) hx hb ht i_LI hown hK hP 0 rfl rfl 0 (by decide) (ht _ q_1_45) (fun _ h9 => h9) rfl d_LI_pendingAt_15 ?_
    refine va_alen hx hb hK hP 1 0 rfl rfl (v := nI (1066)) rfl d_LI_pendingAt_18 ?_
    refine lv_icmp_ge (tgt := 31) hx hb d_LI_pendingAt_19 (by decide) (fun c0 => ?_) (fun c0 => ?_)
    · have c_19 : 1066 ≤ le - 1 - i := (nI_leI (a := 1066) (b := le - 1 - i) (by omega) (by omega)).mp c0
      exact absurd c_19 (by omega)
    · have c_19 : ¬ (1066 ≤ le - 1 - i) := fun z => c0 ((nI_leI (a := 1066) (b := le - 1 - i) (by omega) (by omega)).mpr z)
      refine lv_aload_n hx hb d_LI_pendingAt_22 rfl (lv_at hl 1 rfl) ?_
      refine va_get (D := (dC, dI)) (ci := 2) (v := .ref pa) (C := R_LI) (T := F_LI) (N := 5) hx hb ht i_LI hown hK hP 0 rfl rfl 0 (by decide) (ht _ q_1_45) (fun _ h9 => h9) rfl d_LI_pendingAt_23 ?_
      refine lv_iload_n hx hb d_LI_pendingAt_26 rfl (lv_at hl 0 rfl) ?_
      refine va_iald hx hb hK hP 1 0 rfl rfl (vp_in_nI (by omega) (by omega)) d_LI_pendingAt_27 ?_
      refine fm_tw (z := pd (le - 1 - i)) (by rw [nI_clamp (by omega)]) ?_
      refine lv_goto (tgt := 34) hx hb d_LI_pendingAt_28 (by decide) ?_
      exact W.iret hx hb hr (fun t ht hW => ⟨_, rfl, rfl, ht⟩) (fun q hq => by cases hq) d_LI_pendingAt_34
theorem d_LI_kernAt_0 : decode b_LI_kernAt 0 = .ok (.iload_n 1, 1) := by decide +kernel
theorem d_LI_kernAt_1 : decode b_LI_kernAt 1 = .ok (.ifCond .lt 25, 3) := by decide +kernel
theorem d_LI_kernAt_4 : decode b_LI_kernAt 4 = .ok (.iload_n 1, 1) := by decide +kernel
theorem d_LI_kernAt_5 : decode b_LI_kernAt 5 = .ok (.aload_n 0, 1) := by decide +kernel
theorem d_LI_kernAt_6 : decode b_LI_kernAt 6 = .ok (.getfield 18, 3) := by decide +kernel
theorem d_LI_kernAt_9 : decode b_LI_kernAt 9 = .ok (.arraylength, 1) := by decide +kernel
theorem d_LI_kernAt_10 : decode b_LI_kernAt 10 = .ok (.if_icmp .ge 16, 3) := by decide +kernel
theorem d_LI_kernAt_13 : decode b_LI_kernAt 13 = .ok (.aload_n 0, 1) := by decide +kernel
theorem d_LI_kernAt_14 : decode b_LI_kernAt 14 = .ok (.getfield 18, 3) := by decide +kernel
theorem d_LI_kernAt_17 : decode b_LI_kernAt 17 = .ok (.iload_n 1, 1) := by decide +kernel
theorem d_LI_kernAt_18 : decode b_LI_kernAt 18 = .ok (.baload, 1) := by decide +kernel
theorem d_LI_kernAt_19 : decode b_LI_kernAt 19 = .ok (.ifCond .eq 7, 3) := by decide +kernel
theorem d_LI_kernAt_22 : decode b_LI_kernAt 22 = .ok (.iconst 1, 1) := by decide +kernel
theorem d_LI_kernAt_23 : decode b_LI_kernAt 23 = .ok (.goto 4, 3) := by decide +kernel
theorem d_LI_kernAt_26 : decode b_LI_kernAt 26 = .ok (.iconst 0, 1) := by decide +kernel
theorem d_LI_kernAt_27 : decode b_LI_kernAt 27 = .ok (.ireturn, 1) := by decide +kernel
set_option maxHeartbeats 4000000 in
set_option maxRecDepth 100000 in
theorem c_LI_kernAt (l : Launch) (dC : Nat → ClassId) (dI : Nat → Nat → Nat) (q : Nat) (pa : Nat) (va : Nat) (na : Nat) (le : Int32) (co : Int32) (cZ : ClassId) (kn : Nat → Int32) (i : Nat) (hi : i < 1066) : fm_M l (dC, dI) y_LI_kernAt w_LI_kernAt ({ frames := 0, cells := 0, slots := 0, locals := 0 }) [.ref q, .int (nI (i))] [(q, .inr (2, [.ref pa, .ref va, .ref na, .int (le), .int (co)])), (na, .inl (cZ, 1066, .inl (kn)))] [(cZ, .boolean)] ((fm_bI (decide (kn i ≠ 0)))) := by
  refine Met.ofW (cc := b_LI_kernAt) (maxL := 2) (ret := (some .boolean)) (by decide) rfl ?_
  intro pg ev s m args below meth cd s₁ BD hml hv
  obtain ⟨rfl, hP, hK⟩ := hv
  have hx := BD.exec
  have hb := BD.bytes
  have hr := BD.returns
  have hts := atoms_spec (ws := w_LI_kernAt) BD.pre
  have ht : ∀ w ∈ fm_T, w.before _ s = true := fun w h => hts w (List.mem_cons_of_mem _ h)
  have hown : s.vm.findClass R_LI = some m.cls := findClass_of_methodNamed BD.named
  have hlocks := BD.notSynchronized
  have S : CallFix pg m cd b_LI_kernAt 2 s _ w_LI_kernAt R_LI := ⟨hx, hb, hml, hown, hts⟩
  have hl := lv_entry ([.ref q, .int (nI (i))]) (n := 2) (Nat.le_of_ble_eq_true rfl)
  rw [lg_entry_eq]
  generalize (lg_sl ([.ref q, .int (nI (i))]) ++ List.replicate (2 - (lg_sl ([.ref q, .int (nI (i))])).length) Slot.unset).toArray = ls at hl ⊢
  have hl : lv_has ls 2 [(0, .ref q), (1, .int (nI (i)))] := hl
  refine lv_iload_n hx hb d_LI_kernAt_0 rfl (lv_at hl 1 rfl) ?_
  refine lv_if_lt (tgt := 26) hx hb d_LI_kernAt_1 (by decide) (fun c0 => ?_) (fun c0 => ?_)
  · have c_1 : i < 0 := (nI_ltI (a := i) (b := 0) (by omega) (by omega)).mp c0
    exact absurd c_1 (by omega)
  · have c_1 : ¬ (i < 0) := fun z => c0 ((nI_ltI (a := i) (b := 0) (by omega) (by omega)).mpr z)
    refine lv_iload_n hx hb d_LI_kernAt_4 rfl (lv_at hl 1 rfl) ?_
    refine lv_aload_n hx hb d_LI_kernAt_5 rfl (lv_at hl 0 rfl) ?_
    refine va_get (D := (dC, dI)) (ci := 2) (v := .ref na) (C := R_LI) (T := F_LI) (N := 5) hx hb ht i_LI hown hK hP 0 rfl rfl 2 (by decide) (ht _ q_1_47) (fun _ h9 => h9) rfl d_LI_kernAt_6 ?_
    refine va_alen hx hb hK hP 1 0 rfl rfl (v := nI (1066)) rfl d_LI_kernAt_9 ?_
    refine lv_icmp_ge (tgt := 26) hx hb d_LI_kernAt_10 (by decide) (fun c0 => ?_) (fun c0 => ?_)
    · have c_10 : 1066 ≤ i := (nI_leI (a := 1066) (b := i) (by omega) (by omega)).mp c0
      exact absurd c_10 (by omega)
    · have c_10 : ¬ (1066 ≤ i) := fun z => c0 ((nI_leI (a := 1066) (b := i) (by omega) (by omega)).mpr z)
      refine lv_aload_n hx hb d_LI_kernAt_13 rfl (lv_at hl 0 rfl) ?_
      refine va_get (D := (dC, dI)) (ci := 2) (v := .ref na) (C := R_LI) (T := F_LI) (N := 5) hx hb ht i_LI hown hK hP 0 rfl rfl 2 (by decide) (ht _ q_1_47) (fun _ h9 => h9) rfl d_LI_kernAt_14 ?_
      refine lv_iload_n hx hb d_LI_kernAt_17 rfl (lv_at hl 1 rfl) ?_
      refine va_zald hx hb hK hP 1 0 rfl rfl (vp_in_nI (by omega) (by omega)) d_LI_kernAt_18 ?_
      refine fm_tw (z := kn (i)) (by rw [nI_clamp (by omega)]) ?_
      refine lv_if_eq (tgt := 26) hx hb d_LI_kernAt_19 (by decide) (fun c0 => ?_) (fun c0 => ?_)
      · have c_19 := c0
        refine lv_iconst (v := nI (0)) hx hb d_LI_kernAt_26 (by decide) ?_
        exact W.zret (ty := .boolean) hx hb hr (rfl) (fun t ht hW => ⟨_, rfl, fm_bI_0 (decide_eq_false (fun z => z c_19)), ht⟩) (fun q hq => by cases hq) d_LI_kernAt_27
      · have c_19 := c0
        refine lv_iconst (v := nI (1)) hx hb d_LI_kernAt_22 (by decide) ?_
        refine lv_goto (tgt := 27) hx hb d_LI_kernAt_23 (by decide) ?_
        exact W.zret (ty := .boolean) hx hb hr (rfl) (fun t ht hW => ⟨_, rfl, fm_bI_1 (decide_eq_true c_19), ht⟩) (fun q hq => by cases hq) d_LI_kernAt_27
theorem d_LI_valueAt_0 : decode b_LI_valueAt 0 = .ok (.iload_n 1, 1) := by decide +kernel
theorem d_LI_valueAt_1 : decode b_LI_valueAt 1 = .ok (.ifCond .lt 21, 3) := by decide +kernel
theorem d_LI_valueAt_4 : decode b_LI_valueAt 4 = .ok (.iload_n 1, 1) := by decide +kernel
theorem d_LI_valueAt_5 : decode b_LI_valueAt 5 = .ok (.aload_n 0, 1) := by decide +kernel
theorem d_LI_valueAt_6 : decode b_LI_valueAt 6 = .ok (.getfield 15, 3) := by decide +kernel
theorem d_LI_valueAt_9 : decode b_LI_valueAt 9 = .ok (.arraylength, 1) := by decide +kernel
theorem d_LI_valueAt_10 : decode b_LI_valueAt 10 = .ok (.if_icmp .ge 12, 3) := by decide +kernel
theorem d_LI_valueAt_13 : decode b_LI_valueAt 13 = .ok (.aload_n 0, 1) := by decide +kernel
theorem d_LI_valueAt_14 : decode b_LI_valueAt 14 = .ok (.getfield 15, 3) := by decide +kernel
theorem d_LI_valueAt_17 : decode b_LI_valueAt 17 = .ok (.iload_n 1, 1) := by decide +kernel
theorem d_LI_valueAt_18 : decode b_LI_valueAt 18 = .ok (.iaload, 1) := by decide +kernel
theorem d_LI_valueAt_19 : decode b_LI_valueAt 19 = .ok (.goto 4, 3) := by decide +kernel
theorem d_LI_valueAt_22 : decode b_LI_valueAt 22 = .ok (.iconst 0, 1) := by decide +kernel
theorem d_LI_valueAt_23 : decode b_LI_valueAt 23 = .ok (.ireturn, 1) := by decide +kernel
set_option maxHeartbeats 4000000 in
set_option maxRecDepth 100000 in
theorem c_LI_valueAt (l : Launch) (dC : Nat → ClassId) (dI : Nat → Nat → Nat) (q : Nat) (pa : Nat) (va : Nat) (na : Nat) (le : Int32) (co : Int32) (cI : ClassId) (vl : Nat → Int32) (i : Nat) (hi : i < 1066) : fm_M l (dC, dI) y_LI_valueAt w_LI_valueAt ({ frames := 0, cells := 0, slots := 0, locals := 0 }) [.ref q, .int (nI (i))] [(q, .inr (2, [.ref pa, .ref va, .ref na, .int (le), .int (co)])), (va, .inl (cI, 1066, .inl (vl)))] [(cI, .int)] ((vl i)) := by
  refine Met.ofW (cc := b_LI_valueAt) (maxL := 2) (ret := (some .int)) (by decide) rfl ?_
  intro pg ev s m args below meth cd s₁ BD hml hv
  obtain ⟨rfl, hP, hK⟩ := hv
  have hx := BD.exec
  have hb := BD.bytes
  have hr := BD.returns
  have hts := atoms_spec (ws := w_LI_valueAt) BD.pre
  have ht : ∀ w ∈ fm_T, w.before _ s = true := fun w h => hts w (List.mem_cons_of_mem _ h)
  have hown : s.vm.findClass R_LI = some m.cls := findClass_of_methodNamed BD.named
  have hlocks := BD.notSynchronized
  have S : CallFix pg m cd b_LI_valueAt 2 s _ w_LI_valueAt R_LI := ⟨hx, hb, hml, hown, hts⟩
  have hl := lv_entry ([.ref q, .int (nI (i))]) (n := 2) (Nat.le_of_ble_eq_true rfl)
  rw [lg_entry_eq]
  generalize (lg_sl ([.ref q, .int (nI (i))]) ++ List.replicate (2 - (lg_sl ([.ref q, .int (nI (i))])).length) Slot.unset).toArray = ls at hl ⊢
  have hl : lv_has ls 2 [(0, .ref q), (1, .int (nI (i)))] := hl
  refine lv_iload_n hx hb d_LI_valueAt_0 rfl (lv_at hl 1 rfl) ?_
  refine lv_if_lt (tgt := 22) hx hb d_LI_valueAt_1 (by decide) (fun c0 => ?_) (fun c0 => ?_)
  · have c_1 : i < 0 := (nI_ltI (a := i) (b := 0) (by omega) (by omega)).mp c0
    exact absurd c_1 (by omega)
  · have c_1 : ¬ (i < 0) := fun z => c0 ((nI_ltI (a := i) (b := 0) (by omega) (by omega)).mpr z)
    refine lv_iload_n hx hb d_LI_valueAt_4 rfl (lv_at hl 1 rfl) ?_
    refine lv_aload_n hx hb d_LI_valueAt_5 rfl (lv_at hl 0 rfl) ?_
    refine va_get (D := (dC, dI)) (ci := 2) (v := .ref va) (C := R_LI) (T := F_LI) (N := 5) hx hb ht i_LI hown hK hP 0 rfl rfl 1 (by decide) (ht _ q_1_46) (fun _ h9 => h9) rfl d_LI_valueAt_6 ?_
    refine va_alen hx hb hK hP 1 0 rfl rfl (v := nI (1066)) rfl d_LI_valueAt_9 ?_
    refine lv_icmp_ge (tgt := 22) hx hb d_LI_valueAt_10 (by decide) (fun c0 => ?_) (fun c0 => ?_)
    · have c_10 : 1066 ≤ i := (nI_leI (a := 1066) (b := i) (by omega) (by omega)).mp c0
      exact absurd c_10 (by omega)
    · have c_10 : ¬ (1066 ≤ i) := fun z => c0 ((nI_leI (a := 1066) (b := i) (by omega) (by omega)).mpr z)
      refine lv_aload_n hx hb d_LI_valueAt_13 rfl (lv_at hl 0 rfl) ?_
      refine va_get (D := (dC, dI)) (ci := 2) (v := .ref va) (C := R_LI) (T := F_LI) (N := 5) hx hb ht i_LI hown hK hP 0 rfl rfl 1 (by decide) (ht _ q_1_46) (fun _ h9 => h9) rfl d_LI_valueAt_14 ?_
      refine lv_iload_n hx hb d_LI_valueAt_17 rfl (lv_at hl 1 rfl) ?_
      refine va_iald hx hb hK hP 1 0 rfl rfl (vp_in_nI (by omega) (by omega)) d_LI_valueAt_18 ?_
      refine fm_tw (z := vl (i)) (by rw [nI_clamp (by omega)]) ?_
      refine lv_goto (tgt := 23) hx hb d_LI_valueAt_19 (by decide) ?_
      exact W.iret hx hb hr (fun t ht hW => ⟨_, rfl, rfl, ht⟩) (fun q hq => by cases hq) d_LI_valueAt_23
theorem d_LI_width_0 : decode b_LI_width 0 = .ok (.lconst 0, 1) := by decide +kernel
theorem d_LI_width_1 : decode b_LI_width 1 = .ok (.lstore_n 2, 1) := by decide +kernel
theorem d_LI_width_2 : decode b_LI_width 2 = .ok (.iconst 0, 1) := by decide +kernel
theorem d_LI_width_3 : decode b_LI_width 3 = .ok (.istore 4, 2) := by decide +kernel
theorem d_LI_width_5 : decode b_LI_width 5 = .ok (.iload 4, 2) := by decide +kernel
theorem d_LI_width_7 : decode b_LI_width 7 = .ok (.aload_n 0, 1) := by decide +kernel
theorem d_LI_width_8 : decode b_LI_width 8 = .ok (.getfield 26, 3) := by decide +kernel
theorem d_LI_width_11 : decode b_LI_width 11 = .ok (.if_icmp .ge 42, 3) := by decide +kernel
theorem d_LI_width_14 : decode b_LI_width 14 = .ok (.lload_n 2, 1) := by decide +kernel
theorem d_LI_width_15 : decode b_LI_width 15 = .ok (.aload_n 0, 1) := by decide +kernel
theorem d_LI_width_16 : decode b_LI_width 16 = .ok (.iload 4, 2) := by decide +kernel
theorem d_LI_width_18 : decode b_LI_width 18 = .ok (.invokevirtual 77, 3) := by decide +kernel
theorem d_LI_width_21 : decode b_LI_width 21 = .ok (.ifCond .eq 13, 3) := by decide +kernel
theorem d_LI_width_24 : decode b_LI_width 24 = .ok (.aload_n 0, 1) := by decide +kernel
theorem d_LI_width_25 : decode b_LI_width 25 = .ok (.iload 4, 2) := by decide +kernel
theorem d_LI_width_27 : decode b_LI_width 27 = .ok (.invokevirtual 81, 3) := by decide +kernel
theorem d_LI_width_30 : decode b_LI_width 30 = .ok (.i2l, 1) := by decide +kernel
theorem d_LI_width_31 : decode b_LI_width 31 = .ok (.goto 14, 3) := by decide +kernel
theorem d_LI_width_34 : decode b_LI_width 34 = .ok (.aload_n 1, 1) := by decide +kernel
theorem d_LI_width_35 : decode b_LI_width 35 = .ok (.aload_n 0, 1) := by decide +kernel
theorem d_LI_width_36 : decode b_LI_width 36 = .ok (.iload 4, 2) := by decide +kernel
theorem d_LI_width_38 : decode b_LI_width 38 = .ok (.invokevirtual 81, 3) := by decide +kernel
theorem d_LI_width_41 : decode b_LI_width 41 = .ok (.invokevirtual 84, 3) := by decide +kernel
theorem d_LI_width_44 : decode b_LI_width 44 = .ok (.i2l, 1) := by decide +kernel
theorem d_LI_width_45 : decode b_LI_width 45 = .ok (.ladd, 1) := by decide +kernel
theorem d_LI_width_46 : decode b_LI_width 46 = .ok (.lstore_n 2, 1) := by decide +kernel
theorem d_LI_width_47 : decode b_LI_width 47 = .ok (.iinc 4 1, 3) := by decide +kernel
theorem d_LI_width_50 : decode b_LI_width 50 = .ok (.goto (-45), 3) := by decide +kernel
theorem d_LI_width_53 : decode b_LI_width 53 = .ok (.lload_n 2, 1) := by decide +kernel
theorem d_LI_width_54 : decode b_LI_width 54 = .ok (.lreturn, 1) := by decide +kernel
set_option maxHeartbeats 4000000 in
set_option maxRecDepth 100000 in
theorem c_LI_width0 (l : Launch) (dC : Nat → ClassId) (dI : Nat → Nat → Nat) (q : Nat) (pa : Nat) (va : Nat) (na : Nat) (le : Int32) (fo : Nat)  : fm_ML l (dC, dI) y_LI_width w_LI_width ({ frames := 0, cells := 0, slots := 0, locals := 0 }) [.ref q, .ref fo] [(q, .inr (2, [.ref pa, .ref va, .ref na, .int (le), .int (nI (0))]))] [] (0) := by
  refine Met.ofW (cc := b_LI_width) (maxL := 5) (ret := (some .long)) (by decide) rfl ?_
  intro pg ev s m args below meth cd s₁ BD hml hv
  obtain ⟨rfl, hP, hK⟩ := hv
  have hx := BD.exec
  have hb := BD.bytes
  have hr := BD.returns
  have hts := atoms_spec (ws := w_LI_width) BD.pre
  have ht : ∀ w ∈ fm_T, w.before _ s = true := fun w h => hts w (List.mem_cons_of_mem _ h)
  have hown : s.vm.findClass R_LI = some m.cls := findClass_of_methodNamed BD.named
  have hlocks := BD.notSynchronized
  have S : CallFix pg m cd b_LI_width 5 s _ w_LI_width R_LI := ⟨hx, hb, hml, hown, hts⟩
  have hl := lv_entry ([.ref q, .ref fo]) (n := 5) (Nat.le_of_ble_eq_true rfl)
  rw [lg_entry_eq]
  generalize (lg_sl ([.ref q, .ref fo]) ++ List.replicate (5 - (lg_sl ([.ref q, .ref fo])).length) Slot.unset).toArray = ls at hl ⊢
  have hl : lv_has ls 5 [(0, .ref q), (1, .ref fo)] := hl
  refine lv_lconst (v := 0) hx hb d_LI_width_0 (by decide) ?_
  refine lv_lstore_n (lv' := [(2, .long (0)), (0, .ref q), (1, .ref fo)]) hx hb d_LI_width_1 rfl hl (by decide) rfl (fun ls hl => ?_)
  refine lv_iconst (v := nI (0)) hx hb d_LI_width_2 (by decide) ?_
  refine lv_istore (lv' := [(4, .int (nI (0))), (2, .long (0)), (0, .ref q), (1, .ref fo)]) hx hb d_LI_width_3 hl (by decide) rfl (fun ls hl => ?_)
  refine lv_iload hx hb d_LI_width_5 (lv_at hl 0 rfl) ?_
  refine lv_aload_n hx hb d_LI_width_7 rfl (lv_at hl 2 rfl) ?_
  refine va_get (D := (dC, dI)) (ci := 2) (v := .int (nI (0))) (C := R_LI) (T := F_LI) (N := 5) hx hb ht i_LI hown hK hP 0 rfl rfl 4 (by decide) (ht _ q_1_49) (fun _ h9 => h9) rfl d_LI_width_8 ?_
  refine lv_icmp_ge (tgt := 53) hx hb d_LI_width_11 (by decide) (fun c0 => ?_) (fun c0 => ?_)
  · have c_11 : 0 ≤ 0 := (nI_leI (a := 0) (b := 0) (by omega) (by omega)).mp c0
    refine lv_lload_n hx hb d_LI_width_53 rfl (lv_at hl 1 rfl) ?_
    exact W.lret hx hb hr (fun t ht hW => ⟨_, rfl, rfl, ht⟩) (fun q hq => by cases hq) d_LI_width_54
  · have c_11 : ¬ (0 ≤ 0) := fun z => c0 ((nI_leI (a := 0) (b := 0) (by omega) (by omega)).mpr z)
    exact absurd c_11 (by decide)
set_option maxHeartbeats 4000000 in
set_option maxRecDepth 100000 in
theorem c_LI_width (l : Launch) (dC : Nat → ClassId) (dI : Nat → Nat → Nat) (q : Nat) (pa : Nat) (va : Nat) (na : Nat) (le : Int32) (cn : Nat) (cZ : ClassId) (vl : Nat → Int32) (kn : Nat → Int32) (o : Nat) (wa : Nat) (sa : Nat) (la : Nat) (sz : Int32) (s0 : Nat) (cI : ClassId) (B : Nat → Nat) (w : Nat → Int32) (st : Nat → Int32) (ln : Nat → Int32) (hcn : cn ≤ 1066) (hF : fm_FO B w st ln) (hz : fm_all (fm_WD B 1) (fm_size1 B) = true) (hs : s0 < 134217728) (hvl : ∀ i, i < cn → kn i ≠ 0 ∨ ∃ c, vl i = nI c ∧ fm_th B c = true) : fm_ML l (dC, dI) y_LI_width w_LI_width ({ frames := 3, cells := 0, slots := 0, locals := 67 }) [.ref q, .ref o] [(q, .inr (2, [.ref pa, .ref va, .ref na, .int (le), .int (nI (cn))])), (va, .inl (cI, 1066, .inl (vl))), (na, .inl (cZ, 1066, .inl (kn))), (o, .inr (1, [.ref wa, .ref sa, .ref la, .int (nI (fm_HF B 2)), .int (nI (fm_HF B 3)), .int (sz), .int (nI (fm_z s0)), .int (nI (fm_h s0))])), (wa, .inl (cI, 2048, .inl (w))), (sa, .inl (cI, 10, .inl (st))), (la, .inl (cI, 10, .inl (ln)))] [(cI, .int), (cZ, .boolean)] (fm_totC B s0 vl kn cn) := by
  refine Met.ofW (cc := b_LI_width) (maxL := 5) (ret := (some .long)) (by decide) rfl ?_
  intro pg ev s m args below meth cd s₁ BD hml hv
  obtain ⟨rfl, hP, hK⟩ := hv
  have hx := BD.exec
  have hb := BD.bytes
  have hr := BD.returns
  have hts := atoms_spec (ws := w_LI_width) BD.pre
  have ht : ∀ w ∈ fm_T, w.before _ s = true := fun w h => hts w (List.mem_cons_of_mem _ h)
  have hown : s.vm.findClass R_LI = some m.cls := findClass_of_methodNamed BD.named
  have hlocks := BD.notSynchronized
  have S : CallFix pg m cd b_LI_width 5 s _ w_LI_width R_LI := ⟨hx, hb, hml, hown, hts⟩
  have hl := lv_entry ([.ref q, .ref o]) (n := 5) (Nat.le_of_ble_eq_true rfl)
  rw [lg_entry_eq]
  generalize (lg_sl ([.ref q, .ref o]) ++ List.replicate (5 - (lg_sl ([.ref q, .ref o])).length) Slot.unset).toArray = ls at hl ⊢
  have hl : lv_has ls 5 [(0, .ref q), (1, .ref o)] := hl
  have hB : ∀ i, B i < 256 := hF.1.1
  obtain ⟨hL, hFw, hFs, hFl⟩ := id hF
  obtain ⟨-, hq, h3, h10⟩ := id hL
  refine lv_lconst (v := 0) hx hb d_LI_width_0 (by decide) ?_
  refine lv_lstore_n (lv' := [(2, .long (0)), (0, .ref q), (1, .ref o)]) hx hb d_LI_width_1 rfl hl (by decide) rfl (fun ls hl => ?_)
  refine lv_iconst (v := nI (0)) hx hb d_LI_width_2 (by decide) ?_
  refine lv_istore (lv' := [(4, .int (nI (0))), (2, .long (0)), (0, .ref q), (1, .ref o)]) hx hb d_LI_width_3 hl (by decide) rfl (fun ls hl => ?_)
  refine fm_loop1 (LV := fun (i : Nat) => [(0, .ref q), (1, .ref o), (2, .long (fm_totC B s0 vl kn i)), (4, .int (nI (i)))]) (I := fun (i : Nat) => i ≤ cn) (μ := fun (i : Nat) => cn - i) ?_ 0 (Nat.zero_le _) ls (lv_sub hl [2, 3, 1, 0] rfl)
  intro i hI_5 ih_5 ls hl
  have hl : lv_has ls 5 [(0, .ref q), (1, .ref o), (2, .long (fm_totC B s0 vl kn i)), (4, .int (nI (i)))] := hl
  refine lv_iload hx hb d_LI_width_5 (lv_at hl 3 rfl) ?_
  refine lv_aload_n hx hb d_LI_width_7 rfl (lv_at hl 0 rfl) ?_
  refine va_get (D := (dC, dI)) (ci := 2) (v := .int (nI (cn))) (C := R_LI) (T := F_LI) (N := 5) hx hb ht i_LI hown hK hP 0 rfl rfl 4 (by decide) (ht _ q_1_49) (fun _ h9 => h9) rfl d_LI_width_8 ?_
  refine lv_icmp_ge (tgt := 53) hx hb d_LI_width_11 (by decide) (fun c0 => ?_) (fun c0 => ?_)
  · have c_11 : cn ≤ i := (nI_leI (a := cn) (b := i) (by omega) (by omega)).mp c0
    refine lv_lload_n hx hb d_LI_width_53 rfl (lv_at hl 2 rfl) ?_
    exact W.lret hx hb hr (fun t ht hW => ⟨_, rfl, by rw [show cn = i by omega], ht⟩) (fun q hq => by cases hq) d_LI_width_54
  · have c_11 : ¬ (cn ≤ i) := fun z => c0 ((nI_leI (a := cn) (b := i) (by omega) (by omega)).mpr z)
    refine lv_lload_n hx hb d_LI_width_14 rfl (lv_at hl 2 rfl) ?_
    refine lv_aload_n hx hb d_LI_width_15 rfl (lv_at hl 0 rfl) ?_
    refine lv_iload hx hb d_LI_width_16 (lv_at hl 3 rfl) ?_
    refine fm_cv S (c_LI_kernAt l dC dI q pa va na le (nI (cn)) cZ kn i (by omega)) rfl rfl k_LI_kernAt q_1_172 ⟨Nat.le_of_ble_eq_true rfl, Nat.le_of_ble_eq_true rfl⟩ (hP.sub [0, 2] rfl) (hK.sub [1] rfl) 0 rfl rfl rfl hl.1 rfl (Nat.le_of_ble_eq_true rfl) ⟨Nat.zero_le _, Nat.zero_le _⟩ d_LI_width_18 ?_
    refine lv_if_eq (tgt := 34) hx hb d_LI_width_21 (by decide) (fun c0 => ?_) (fun c0 => ?_)
    · have c_21 : (decide (kn i ≠ 0)) = false := fm_bI_f c0
      have hk0 := of_decide_eq_false c_21
      obtain ⟨c, hkc, hth⟩ := (hvl i (by omega)).resolve_left hk0
      obtain ⟨h1, h2, -⟩ := fm_th_in hth
      have hc255 : c ≤ 255 := Nat.le_trans h2 h3
      refine lv_aload_n hx hb d_LI_width_34 rfl (lv_at hl 1 rfl) ?_
      refine lv_aload_n hx hb d_LI_width_35 rfl (lv_at hl 0 rfl) ?_
      refine lv_iload hx hb d_LI_width_36 (lv_at hl 3 rfl) ?_
      refine fm_cv S (c_LI_valueAt l dC dI q pa va na le (nI (cn)) cI vl i (by omega)) rfl rfl k_LI_valueAt q_1_176 ⟨Nat.le_of_ble_eq_true rfl, Nat.le_of_ble_eq_true rfl⟩ (hP.sub [0, 1] rfl) (hK.sub [0] rfl) 0 rfl rfl rfl hl.1 rfl (Nat.le_of_ble_eq_true rfl) ⟨Nat.zero_le _, Nat.zero_le _⟩ d_LI_width_38 ?_
      refine fm_tw (z := nI (c)) (hkc) ?_
      refine fm_cv S (c_FO_width l dC dI o wa sa la sz s0 cI B w st ln c (hF) (h1) (h2) (hz) (hs)) rfl rfl k_FO_width q_1_180 ⟨Nat.le_of_ble_eq_true rfl, Nat.le_of_ble_eq_true rfl⟩ (hP.sub [3, 4, 5, 6] rfl) (hK.sub [0] rfl) 0 rfl rfl rfl hl.1 rfl (Nat.le_of_ble_eq_true rfl) ⟨Nat.zero_le _, Nat.zero_le _⟩ d_LI_width_41 ?_
      refine lv_i2l hx hb d_LI_width_44 rfl ?_
      refine lv_ladd hx hb d_LI_width_45 ?_
      refine fm_twl (z := fm_totC B s0 vl kn (i + 1)) (by first | (show _ = fm_totC B s0 vl kn i + _; rw [if_pos hk1]; done) | (show _ = fm_totC B s0 vl kn i + _; rw [if_neg hk0, hkc, nI_clamp (by omega)]; done)) ?_
      refine lv_lstore_n (lv' := [(2, .long (fm_totC B s0 vl kn (i + 1))), (0, .ref q), (1, .ref o), (4, .int (nI (i)))]) hx hb d_LI_width_46 rfl hl (by decide) rfl (fun ls hl => ?_)
      refine lv_iinc (v := nI (i + 1)) (lv' := [(4, .int (nI (i + 1))), (2, .long (fm_totC B s0 vl kn (i + 1))), (0, .ref q), (1, .ref o)]) hx hb d_LI_width_47 hl (k := 3) rfl (nI_1 _) (by decide) rfl (fun ls hl => ?_)
      refine lv_goto (tgt := 5) hx hb d_LI_width_50 (by decide) ?_
      exact ih_5 (i + 1) ls (by omega) (by omega) (lv_sub hl [2, 3, 1, 0] rfl)
    · have c_21 : (decide (kn i ≠ 0)) = true := fm_bI_t c0
      have hk1 := of_decide_eq_true c_21
      refine lv_aload_n hx hb d_LI_width_24 rfl (lv_at hl 0 rfl) ?_
      refine lv_iload hx hb d_LI_width_25 (lv_at hl 3 rfl) ?_
      refine fm_cv S (c_LI_valueAt l dC dI q pa va na le (nI (cn)) cI vl i (by omega)) rfl rfl k_LI_valueAt q_1_176 ⟨Nat.le_of_ble_eq_true rfl, Nat.le_of_ble_eq_true rfl⟩ (hP.sub [0, 1] rfl) (hK.sub [0] rfl) 0 rfl rfl rfl hl.1 rfl (Nat.le_of_ble_eq_true rfl) ⟨Nat.zero_le _, Nat.zero_le _⟩ d_LI_width_27 ?_
      refine lv_i2l hx hb d_LI_width_30 rfl ?_
      refine lv_goto (tgt := 45) hx hb d_LI_width_31 (by decide) ?_
      refine lv_ladd hx hb d_LI_width_45 ?_
      refine fm_twl (z := fm_totC B s0 vl kn (i + 1)) (by first | (show _ = fm_totC B s0 vl kn i + _; rw [if_pos hk1]; done) | (show _ = fm_totC B s0 vl kn i + _; rw [if_neg hk0, hkc, nI_clamp (by omega)]; done)) ?_
      refine lv_lstore_n (lv' := [(2, .long (fm_totC B s0 vl kn (i + 1))), (0, .ref q), (1, .ref o), (4, .int (nI (i)))]) hx hb d_LI_width_46 rfl hl (by decide) rfl (fun ls hl => ?_)
      refine lv_iinc (v := nI (i + 1)) (lv' := [(4, .int (nI (i + 1))), (2, .long (fm_totC B s0 vl kn (i + 1))), (0, .ref q), (1, .ref o)]) hx hb d_LI_width_47 hl (k := 3) rfl (nI_1 _) (by decide) rfl (fun ls hl => ?_)
      refine lv_goto (tgt := 5) hx hb d_LI_width_50 (by decide) ?_
      exact ih_5 (i + 1) ls (by omega) (by omega) (lv_sub hl [2, 3, 1, 0] rfl)
