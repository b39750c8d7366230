theorem d_MO_isKern_0 : decode b_MO_isKern 0 = .ok (.aload_n 0, 1) := by decide +kernel
theorem d_MO_isKern_1 : decode b_MO_isKern 1 = .ok (.iload_n 1, 1) := by decide +kernel
theorem d_MO_isKern_2 : decode b_MO_isKern 2 = .ok (.ifCond .lt 11, 3) := by decide +kernel
theorem d_MO_isKern_5 : decode b_MO_isKern 5 = .ok (.iload_n 1, 1) := by decide +kernel
theorem d_MO_isKern_6 : decode b_MO_isKern 6 = .ok (.aload_n 0, 1) := by decide +kernel
theorem d_MO_isKern_7 : decode b_MO_isKern 7 = .ok (.getfield 110, 3) := by decide +kernel
theorem d_MO_isKern_10 : decode b_MO_isKern 10 = .ok (.if_icmp .lt 7, 3) := by decide +kernel
theorem d_MO_isKern_13 : decode b_MO_isKern 13 = .ok (.iconst 1, 1) := by decide +kernel
theorem d_MO_isKern_14 : decode b_MO_isKern 14 = .ok (.goto 4, 3) := by decide +kernel
theorem d_MO_isKern_17 : decode b_MO_isKern 17 = .ok (.iconst 0, 1) := by decide +kernel
theorem d_MO_isKern_18 : decode b_MO_isKern 18 = .ok (.putfield 26, 3) := by decide +kernel
theorem d_MO_isKern_21 : decode b_MO_isKern 21 = .ok (.aload_n 0, 1) := by decide +kernel
theorem d_MO_isKern_22 : decode b_MO_isKern 22 = .ok (.getfield 26, 3) := by decide +kernel
theorem d_MO_isKern_25 : decode b_MO_isKern 25 = .ok (.ifCond .ne 19, 3) := by decide +kernel
theorem d_MO_isKern_28 : decode b_MO_isKern 28 = .ok (.aload_n 0, 1) := by decide +kernel
theorem d_MO_isKern_29 : decode b_MO_isKern 29 = .ok (.getfield 19, 3) := by decide +kernel
theorem d_MO_isKern_32 : decode b_MO_isKern 32 = .ok (.iload_n 1, 1) := by decide +kernel
theorem d_MO_isKern_33 : decode b_MO_isKern 33 = .ok (.iaload, 1) := by decide +kernel
theorem d_MO_isKern_34 : decode b_MO_isKern 34 = .ok (.sipush 257, 3) := by decide +kernel
theorem d_MO_isKern_37 : decode b_MO_isKern 37 = .ok (.if_icmp .ne 7, 3) := by decide +kernel
theorem d_MO_isKern_40 : decode b_MO_isKern 40 = .ok (.iconst 1, 1) := by decide +kernel
theorem d_MO_isKern_41 : decode b_MO_isKern 41 = .ok (.goto 4, 3) := by decide +kernel
theorem d_MO_isKern_44 : decode b_MO_isKern 44 = .ok (.iconst 0, 1) := by decide +kernel
theorem d_MO_isKern_45 : decode b_MO_isKern 45 = .ok (.ireturn, 1) := by decide +kernel
set_option maxHeartbeats 4000000 in
set_option maxRecDepth 100000 in
theorem c_MO_isKernY (l : Launch) (dC : Nat → ClassId) (dI : Nat → Nat → Nat) (h : Nat) (th : Int32) (fa : Nat) (n0 : Int32) (ga : Nat) (ld : Int32) (sz : Int32) (ra : Nat) (rz : Int32) (ka : Nat) (wa : Nat) (cn : Nat) (cI : ClassId) (kd : Nat → Int32) (i : Nat) (hcn : cn ≤ 1100) (hi : i < cn) : fm_MW l (dC, dI) y_MO_isKern w_MO_isKern ({ frames := 0, cells := 0, slots := 0, locals := 0 }) [.ref h, .int (nI (i))] [(h, .inr (4, [.int (th), .ref fa, .int (n0), .ref ga, .int (ld), .int (sz), .ref ra, .int (rz), .ref ka, .ref wa, .int (nI (cn))])), (ka, .inl (cI, 1100, .inl (kd)))] [(h, .inr (4, [.int (nI (0)), .ref fa, .int (n0), .ref ga, .int (ld), .int (sz), .ref ra, .int (rz), .ref ka, .ref wa, .int (nI (cn))])), (ka, .inl (cI, 1100, .inl (kd)))] [(cI, .int)] (some (.int (fm_bI (decide (kd i = nI 257))))) := by
  refine Met.ofW (cc := b_MO_isKern) (maxL := 2) (ret := (some .boolean)) (by decide) rfl ?_
  intro pg ev s m args below meth cd s₁ BD hml hv
  obtain ⟨rfl, hP, hK, hD0⟩ := hv
  have hx := BD.exec
  have hb := BD.bytes
  have hr := BD.returns
  have hts := atoms_spec (ws := w_MO_isKern) BD.pre
  have ht : ∀ w ∈ fm_T, w.before _ s = true := fun w h => hts w (List.mem_cons_of_mem _ h)
  have hown : s.vm.findClass R_MO = some m.cls := findClass_of_methodNamed BD.named
  have hlocks := BD.notSynchronized
  have S : CallFix pg m cd b_MO_isKern 2 s _ w_MO_isKern R_MO := ⟨hx, hb, hml, hown, hts⟩
  have hD := fm_selfD hD0
  generalize fm_A [(h, .inr (4, [.int (th), .ref fa, .int (n0), .ref ga, .int (ld), .int (sz), .ref ra, .int (rz), .ref ka, .ref wa, .int (nI (cn))])), (ka, .inl (cI, 1100, .inl (kd)))] = A at hD ⊢
  have hS : va_S A s.heap s.heap [] := va_S.rf
  have hl := lv_entry ([.ref h, .int (nI (i))]) (n := 2) (Nat.le_of_ble_eq_true rfl)
  rw [lg_entry_eq]
  generalize (lg_sl ([.ref h, .int (nI (i))]) ++ List.replicate (2 - (lg_sl ([.ref h, .int (nI (i))])).length) Slot.unset).toArray = ls at hl ⊢
  have hl : lv_has ls 2 [(0, .ref h), (1, .int (nI (i)))] := hl
  refine lv_aload_n hx hb d_MO_isKern_0 rfl (lv_at hl 0 rfl) ?_
  refine lv_iload_n hx hb d_MO_isKern_1 rfl (lv_at hl 1 rfl) ?_
  refine lv_if_lt (tgt := 13) hx hb d_MO_isKern_2 (by decide) (fun c0 => ?_) (fun c0 => ?_)
  · have c_2 : i < 0 := (nI_ltI (a := i) (b := 0) (by omega) (by omega)).mp c0
    exact absurd c_2 (by omega)
  · have c_2 : ¬ (i < 0) := fun z => c0 ((nI_ltI (a := i) (b := 0) (by omega) (by omega)).mpr z)
    refine lv_iload_n hx hb d_MO_isKern_5 rfl (lv_at hl 1 rfl) ?_
    refine lv_aload_n hx hb d_MO_isKern_6 rfl (lv_at hl 0 rfl) ?_
    refine va_get (D := (dC, dI)) (ci := 4) (v := .int (nI (cn))) (C := R_MO) (T := F_MO) (N := 11) hx hb ht i_MO hown hK hP 0 rfl rfl 10 (by decide) (ht _ q_3_123) (fun _ h9 => h9) rfl d_MO_isKern_7 ?_
    refine lv_icmp_lt (tgt := 17) hx hb d_MO_isKern_10 (by decide) (fun c0 => ?_) (fun c0 => ?_)
    · have c_10 : i < cn := (nI_ltI (a := i) (b := cn) (by omega) (by omega)).mp c0
      refine lv_iconst (v := nI (0)) hx hb d_MO_isKern_17 (by decide) ?_
      refine va_put (D := (dC, dI)) (ci := 4) (v := .int (nI (0))) (ty := .int) (C := R_MO) (T := F_MO) (N := 11) hx hb ht i_MO t_MO t_MO_ok n_MO hown hK hP hD hS 0 rfl rfl 0 (by decide) (ht _ q_3_113) (fun _ h9 => h9) rfl (by decide +kernel) (rfl) (rfl) (Nat.le_of_ble_eq_true rfl) d_MO_isKern_18 (fun H locs hP hD hS => ?_)
      have hP : va_P (dC, dI) classes [(h, .inr (4, [.int (nI (0)), .ref fa, .int (n0), .ref ga, .int (ld), .int (sz), .ref ra, .int (rz), .ref ka, .ref wa, .int (nI (cn))])), (ka, .inl (cI, 1100, .inl (kd)))] _ := hP
      have hD : va_D A [(h, .inr (4, [.int (nI (0)), .ref fa, .int (n0), .ref ga, .int (ld), .int (sz), .ref ra, .int (rz), .ref ka, .ref wa, .int (nI (cn))])), (ka, .inl (cI, 1100, .inl (kd)))] := hD
      refine lv_aload_n hx hb d_MO_isKern_21 rfl (lv_at hl 0 rfl) ?_
      refine va_get (D := (dC, dI)) (ci := 4) (v := .int (nI (0))) (C := R_MO) (T := F_MO) (N := 11) hx hb ht i_MO hown hK hP 0 rfl rfl 0 (by decide) (ht _ q_3_113) (fun _ h9 => h9) rfl d_MO_isKern_22 ?_
      refine lv_if_ne (tgt := 44) hx hb d_MO_isKern_25 (by decide) (fun c0 => ?_) (fun c0 => ?_)
      · have c_25 : ¬ (0 = 0) := fun z => c0 ((nI_eq (a := 0) (b := 0) (by omega) (by omega)).mpr z)
        exact absurd c_25 (by decide)
      · have c_25 : 0 = 0 := (nI_eq (a := 0) (b := 0) (by omega) (by omega)).mp c0
        refine lv_aload_n hx hb d_MO_isKern_28 rfl (lv_at hl 0 rfl) ?_
        refine va_get (D := (dC, dI)) (ci := 4) (v := .ref ka) (C := R_MO) (T := F_MO) (N := 11) hx hb ht i_MO hown hK hP 0 rfl rfl 8 (by decide) (ht _ q_3_121) (fun _ h9 => h9) rfl d_MO_isKern_29 ?_
        refine lv_iload_n hx hb d_MO_isKern_32 rfl (lv_at hl 1 rfl) ?_
        refine va_iald hx hb hK hP 1 0 rfl rfl (vp_in_nI (by omega) (by omega)) d_MO_isKern_33 ?_
        refine fm_tw (z := kd (i)) (by rw [nI_clamp (by omega)]) ?_
        refine lv_sipush (v := nI (257)) hx hb d_MO_isKern_34 (by decide) ?_
        refine lv_icmp_ne (tgt := 44) hx hb d_MO_isKern_37 (by decide) (fun c0 => ?_) (fun c0 => ?_)
        · have c_37 := c0
          refine lv_iconst (v := nI (0)) hx hb d_MO_isKern_44 (by decide) ?_
          exact W.zret (ty := .boolean) hx hb hr (rfl) (fun t ht hW => ⟨congrArg (fun z => Outcome.returned (some (Value.int z))) (fm_bI_0 (decide_eq_false c_37)), by rw [ht]; exact hP, hS.F ht⟩) hS.2.2 d_MO_isKern_45
        · have c_37 := c0
          refine lv_iconst (v := nI (1)) hx hb d_MO_isKern_40 (by decide) ?_
          refine lv_goto (tgt := 45) hx hb d_MO_isKern_41 (by decide) ?_
          exact W.zret (ty := .boolean) hx hb hr (rfl) (fun t ht hW => ⟨congrArg (fun z => Outcome.returned (some (Value.int z))) (fm_bI_1 (decide_eq_true c_37)), by rw [ht]; exact hP, hS.F ht⟩) hS.2.2 d_MO_isKern_45
    · have c_10 : ¬ (i < cn) := fun z => c0 ((nI_ltI (a := i) (b := cn) (by omega) (by omega)).mpr z)
      exact absurd hi c_10
set_option maxHeartbeats 4000000 in
set_option maxRecDepth 100000 in
theorem c_MO_isKernN (l : Launch) (dC : Nat → ClassId) (dI : Nat → Nat → Nat) (h : Nat) (th : Int32) (fa : Nat) (n0 : Int32) (ga : Nat) (ld : Int32) (sz : Int32) (ra : Nat) (rz : Int32) (ka : Nat) (wa : Nat) (cn : Nat) (x : Int32) (hno : x < 0 ∨ nI cn ≤ x) : fm_MW l (dC, dI) y_MO_isKern w_MO_isKern ({ frames := 0, cells := 0, slots := 0, locals := 0 }) [.ref h, .int (x)] [(h, .inr (4, [.int (th), .ref fa, .int (n0), .ref ga, .int (ld), .int (sz), .ref ra, .int (rz), .ref ka, .ref wa, .int (nI (cn))]))] [(h, .inr (4, [.int (nI (1)), .ref fa, .int (n0), .ref ga, .int (ld), .int (sz), .ref ra, .int (rz), .ref ka, .ref wa, .int (nI (cn))]))] [] (some (.int (nI (0)))) := by
  refine Met.ofW (cc := b_MO_isKern) (maxL := 2) (ret := (some .boolean)) (by decide) rfl ?_
  intro pg ev s m args below meth cd s₁ BD hml hv
  obtain ⟨rfl, hP, hK, hD0⟩ := hv
  have hx := BD.exec
  have hb := BD.bytes
  have hr := BD.returns
  have hts := atoms_spec (ws := w_MO_isKern) BD.pre
  have ht : ∀ w ∈ fm_T, w.before _ s = true := fun w h => hts w (List.mem_cons_of_mem _ h)
  have hown : s.vm.findClass R_MO = some m.cls := findClass_of_methodNamed BD.named
  have hlocks := BD.notSynchronized
  have S : CallFix pg m cd b_MO_isKern 2 s _ w_MO_isKern R_MO := ⟨hx, hb, hml, hown, hts⟩
  have hD := fm_selfD hD0
  generalize fm_A [(h, .inr (4, [.int (th), .ref fa, .int (n0), .ref ga, .int (ld), .int (sz), .ref ra, .int (rz), .ref ka, .ref wa, .int (nI (cn))]))] = A at hD ⊢
  have hS : va_S A s.heap s.heap [] := va_S.rf
  have hl := lv_entry ([.ref h, .int (x)]) (n := 2) (Nat.le_of_ble_eq_true rfl)
  rw [lg_entry_eq]
  generalize (lg_sl ([.ref h, .int (x)]) ++ List.replicate (2 - (lg_sl ([.ref h, .int (x)])).length) Slot.unset).toArray = ls at hl ⊢
  have hl : lv_has ls 2 [(0, .ref h), (1, .int (x))] := hl
  refine lv_aload_n hx hb d_MO_isKern_0 rfl (lv_at hl 0 rfl) ?_
  refine lv_iload_n hx hb d_MO_isKern_1 rfl (lv_at hl 1 rfl) ?_
  refine lv_if_lt (tgt := 13) hx hb d_MO_isKern_2 (by decide) (fun c0 => ?_) (fun c0 => ?_)
  · have c_2 := c0
    refine lv_iconst (v := nI (1)) hx hb d_MO_isKern_13 (by decide) ?_
    refine lv_goto (tgt := 18) hx hb d_MO_isKern_14 (by decide) ?_
    refine va_put (D := (dC, dI)) (ci := 4) (v := .int (nI (1))) (ty := .int) (C := R_MO) (T := F_MO) (N := 11) hx hb ht i_MO t_MO t_MO_ok n_MO hown hK hP hD hS 0 rfl rfl 0 (by decide) (ht _ q_3_113) (fun _ h9 => h9) rfl (by decide +kernel) (rfl) (rfl) (Nat.le_of_ble_eq_true rfl) d_MO_isKern_18 (fun H locs hP hD hS => ?_)
    have hP : va_P (dC, dI) classes [(h, .inr (4, [.int (nI (1)), .ref fa, .int (n0), .ref ga, .int (ld), .int (sz), .ref ra, .int (rz), .ref ka, .ref wa, .int (nI (cn))]))] _ := hP
    have hD : va_D A [(h, .inr (4, [.int (nI (1)), .ref fa, .int (n0), .ref ga, .int (ld), .int (sz), .ref ra, .int (rz), .ref ka, .ref wa, .int (nI (cn))]))] := hD
    refine lv_aload_n hx hb d_MO_isKern_21 rfl (lv_at hl 0 rfl) ?_
    refine va_get (D := (dC, dI)) (ci := 4) (v := .int (nI (1))) (C := R_MO) (T := F_MO) (N := 11) hx hb ht i_MO hown hK hP 0 rfl rfl 0 (by decide) (ht _ q_3_113) (fun _ h9 => h9) rfl d_MO_isKern_22 ?_
    refine lv_if_ne (tgt := 44) hx hb d_MO_isKern_25 (by decide) (fun c0 => ?_) (fun c0 => ?_)
    · have c_25 : ¬ (1 = 0) := fun z => c0 ((nI_eq (a := 1) (b := 0) (by omega) (by omega)).mpr z)
      refine lv_iconst (v := nI (0)) hx hb d_MO_isKern_44 (by decide) ?_
      exact W.zret (ty := .boolean) hx hb hr (rfl) (fun t ht hW => ⟨congrArg (fun z => Outcome.returned (some (Value.int z))) (rfl), by rw [ht]; exact hP, hS.F ht⟩) hS.2.2 d_MO_isKern_45
    · have c_25 : 1 = 0 := (nI_eq (a := 1) (b := 0) (by omega) (by omega)).mp c0
      exact absurd c_25 (by decide)
  · have c_2 := c0
    refine lv_iload_n hx hb d_MO_isKern_5 rfl (lv_at hl 1 rfl) ?_
    refine lv_aload_n hx hb d_MO_isKern_6 rfl (lv_at hl 0 rfl) ?_
    refine va_get (D := (dC, dI)) (ci := 4) (v := .int (nI (cn))) (C := R_MO) (T := F_MO) (N := 11) hx hb ht i_MO hown hK hP 0 rfl rfl 10 (by decide) (ht _ q_3_123) (fun _ h9 => h9) rfl d_MO_isKern_7 ?_
    refine lv_icmp_lt (tgt := 17) hx hb d_MO_isKern_10 (by decide) (fun c0 => ?_) (fun c0 => ?_)
    · have c_10 := c0
      exact absurd c_10 (Int32.not_lt.mpr (hno.resolve_left c_2))
    · have c_10 := c0
      refine lv_iconst (v := nI (1)) hx hb d_MO_isKern_13 (by decide) ?_
      refine lv_goto (tgt := 18) hx hb d_MO_isKern_14 (by decide) ?_
      refine va_put (D := (dC, dI)) (ci := 4) (v := .int (nI (1))) (ty := .int) (C := R_MO) (T := F_MO) (N := 11) hx hb ht i_MO t_MO t_MO_ok n_MO hown hK hP hD hS 0 rfl rfl 0 (by decide) (ht _ q_3_113) (fun _ h9 => h9) rfl (by decide +kernel) (rfl) (rfl) (Nat.le_of_ble_eq_true rfl) d_MO_isKern_18 (fun H locs hP hD hS => ?_)
      have hP : va_P (dC, dI) classes [(h, .inr (4, [.int (nI (1)), .ref fa, .int (n0), .ref ga, .int (ld), .int (sz), .ref ra, .int (rz), .ref ka, .ref wa, .int (nI (cn))]))] _ := hP
      have hD : va_D A [(h, .inr (4, [.int (nI (1)), .ref fa, .int (n0), .ref ga, .int (ld), .int (sz), .ref ra, .int (rz), .ref ka, .ref wa, .int (nI (cn))]))] := hD
      refine lv_aload_n hx hb d_MO_isKern_21 rfl (lv_at hl 0 rfl) ?_
      refine va_get (D := (dC, dI)) (ci := 4) (v := .int (nI (1))) (C := R_MO) (T := F_MO) (N := 11) hx hb ht i_MO hown hK hP 0 rfl rfl 0 (by decide) (ht _ q_3_113) (fun _ h9 => h9) rfl d_MO_isKern_22 ?_
      refine lv_if_ne (tgt := 44) hx hb d_MO_isKern_25 (by decide) (fun c0 => ?_) (fun c0 => ?_)
      · have c_25 : ¬ (1 = 0) := fun z => c0 ((nI_eq (a := 1) (b := 0) (by omega) (by omega)).mpr z)
        refine lv_iconst (v := nI (0)) hx hb d_MO_isKern_44 (by decide) ?_
        exact W.zret (ty := .boolean) hx hb hr (rfl) (fun t ht hW => ⟨congrArg (fun z => Outcome.returned (some (Value.int z))) (rfl), by rw [ht]; exact hP, hS.F ht⟩) hS.2.2 d_MO_isKern_45
      · have c_25 : 1 = 0 := (nI_eq (a := 1) (b := 0) (by omega) (by omega)).mp c0
        exact absurd c_25 (by decide)
theorem d_MO_item_0 : decode b_MO_item 0 = .ok (.aload_n 0, 1) := by decide +kernel
theorem d_MO_item_1 : decode b_MO_item 1 = .ok (.iload_n 1, 1) := by decide +kernel
theorem d_MO_item_2 : decode b_MO_item 2 = .ok (.ifCond .lt 11, 3) := by decide +kernel
theorem d_MO_item_5 : decode b_MO_item 5 = .ok (.iload_n 1, 1) := by decide +kernel
theorem d_MO_item_6 : decode b_MO_item 6 = .ok (.aload_n 0, 1) := by decide +kernel
theorem d_MO_item_7 : decode b_MO_item 7 = .ok (.getfield 110, 3) := by decide +kernel
theorem d_MO_item_10 : decode b_MO_item 10 = .ok (.if_icmp .lt 7, 3) := by decide +kernel
theorem d_MO_item_13 : decode b_MO_item 13 = .ok (.iconst 1, 1) := by decide +kernel
theorem d_MO_item_14 : decode b_MO_item 14 = .ok (.goto 4, 3) := by decide +kernel
theorem d_MO_item_17 : decode b_MO_item 17 = .ok (.iconst 0, 1) := by decide +kernel
theorem d_MO_item_18 : decode b_MO_item 18 = .ok (.putfield 26, 3) := by decide +kernel
theorem d_MO_item_21 : decode b_MO_item 21 = .ok (.aload_n 0, 1) := by decide +kernel
theorem d_MO_item_22 : decode b_MO_item 22 = .ok (.getfield 26, 3) := by decide +kernel
theorem d_MO_item_25 : decode b_MO_item 25 = .ok (.ifCond .le 7, 3) := by decide +kernel
theorem d_MO_item_28 : decode b_MO_item 28 = .ok (.iconst 0, 1) := by decide +kernel
theorem d_MO_item_29 : decode b_MO_item 29 = .ok (.goto 30, 3) := by decide +kernel
theorem d_MO_item_32 : decode b_MO_item 32 = .ok (.aload_n 0, 1) := by decide +kernel
theorem d_MO_item_33 : decode b_MO_item 33 = .ok (.getfield 19, 3) := by decide +kernel
theorem d_MO_item_36 : decode b_MO_item 36 = .ok (.iload_n 1, 1) := by decide +kernel
theorem d_MO_item_37 : decode b_MO_item 37 = .ok (.iaload, 1) := by decide +kernel
theorem d_MO_item_38 : decode b_MO_item 38 = .ok (.sipush 257, 3) := by decide +kernel
theorem d_MO_item_41 : decode b_MO_item 41 = .ok (.if_icmp .ne 12, 3) := by decide +kernel
theorem d_MO_item_44 : decode b_MO_item 44 = .ok (.aload_n 0, 1) := by decide +kernel
theorem d_MO_item_45 : decode b_MO_item 45 = .ok (.getfield 23, 3) := by decide +kernel
theorem d_MO_item_48 : decode b_MO_item 48 = .ok (.iload_n 1, 1) := by decide +kernel
theorem d_MO_item_49 : decode b_MO_item 49 = .ok (.iaload, 1) := by decide +kernel
theorem d_MO_item_50 : decode b_MO_item 50 = .ok (.goto 9, 3) := by decide +kernel
theorem d_MO_item_53 : decode b_MO_item 53 = .ok (.aload_n 0, 1) := by decide +kernel
theorem d_MO_item_54 : decode b_MO_item 54 = .ok (.getfield 19, 3) := by decide +kernel
theorem d_MO_item_57 : decode b_MO_item 57 = .ok (.iload_n 1, 1) := by decide +kernel
theorem d_MO_item_58 : decode b_MO_item 58 = .ok (.iaload, 1) := by decide +kernel
theorem d_MO_item_59 : decode b_MO_item 59 = .ok (.ireturn, 1) := by decide +kernel
set_option maxHeartbeats 4000000 in
set_option maxRecDepth 100000 in
theorem c_MO_itemY (l : Launch) (dC : Nat → ClassId) (dI : Nat → Nat → Nat) (h : Nat) (th : Int32) (fa : Nat) (n0 : Int32) (ga : Nat) (ld : Int32) (sz : Int32) (ra : Nat) (rz : Int32) (ka : Nat) (wa : Nat) (cn : Nat) (cI : ClassId) (kd : Nat → Int32) (wd : Nat → Int32) (i : Nat) (hcn : cn ≤ 1100) (hi : i < cn) : fm_MW l (dC, dI) y_MO_item w_MO_item ({ frames := 0, cells := 0, slots := 0, locals := 0 }) [.ref h, .int (nI (i))] [(h, .inr (4, [.int (th), .ref fa, .int (n0), .ref ga, .int (ld), .int (sz), .ref ra, .int (rz), .ref ka, .ref wa, .int (nI (cn))])), (ka, .inl (cI, 1100, .inl (kd))), (wa, .inl (cI, 1100, .inl (wd)))] [(h, .inr (4, [.int (nI (0)), .ref fa, .int (n0), .ref ga, .int (ld), .int (sz), .ref ra, .int (rz), .ref ka, .ref wa, .int (nI (cn))])), (ka, .inl (cI, 1100, .inl (kd))), (wa, .inl (cI, 1100, .inl (wd)))] [(cI, .int)] (some (.int (if kd i = nI 257 then wd i else kd i))) := by
  refine Met.ofW (cc := b_MO_item) (maxL := 2) (ret := (some .int)) (by decide) rfl ?_
  intro pg ev s m args below meth cd s₁ BD hml hv
  obtain ⟨rfl, hP, hK, hD0⟩ := hv
  have hx := BD.exec
  have hb := BD.bytes
  have hr := BD.returns
  have hts := atoms_spec (ws := w_MO_item) BD.pre
  have ht : ∀ w ∈ fm_T, w.before _ s = true := fun w h => hts w (List.mem_cons_of_mem _ h)
  have hown : s.vm.findClass R_MO = some m.cls := findClass_of_methodNamed BD.named
  have hlocks := BD.notSynchronized
  have S : CallFix pg m cd b_MO_item 2 s _ w_MO_item R_MO := ⟨hx, hb, hml, hown, hts⟩
  have hD := fm_selfD hD0
  generalize fm_A [(h, .inr (4, [.int (th), .ref fa, .int (n0), .ref ga, .int (ld), .int (sz), .ref ra, .int (rz), .ref ka, .ref wa, .int (nI (cn))])), (ka, .inl (cI, 1100, .inl (kd))), (wa, .inl (cI, 1100, .inl (wd)))] = A at hD ⊢
  have hS : va_S A s.heap s.heap [] := va_S.rf
  have hl := lv_entry ([.ref h, .int (nI (i))]) (n := 2) (Nat.le_of_ble_eq_true rfl)
  rw [lg_entry_eq]
  generalize (lg_sl ([.ref h, .int (nI (i))]) ++ List.replicate (2 - (lg_sl ([.ref h, .int (nI (i))])).length) Slot.unset).toArray = ls at hl ⊢
  have hl : lv_has ls 2 [(0, .ref h), (1, .int (nI (i)))] := hl
  refine lv_aload_n hx hb d_MO_item_0 rfl (lv_at hl 0 rfl) ?_
  refine lv_iload_n hx hb d_MO_item_1 rfl (lv_at hl 1 rfl) ?_
  refine lv_if_lt (tgt := 13) hx hb d_MO_item_2 (by decide) (fun c0 => ?_) (fun c0 => ?_)
  · have c_2 : i < 0 := (nI_ltI (a := i) (b := 0) (by omega) (by omega)).mp c0
    exact absurd c_2 (by omega)
  · have c_2 : ¬ (i < 0) := fun z => c0 ((nI_ltI (a := i) (b := 0) (by omega) (by omega)).mpr z)
    refine lv_iload_n hx hb d_MO_item_5 rfl (lv_at hl 1 rfl) ?_
    refine lv_aload_n hx hb d_MO_item_6 rfl (lv_at hl 0 rfl) ?_
    refine va_get (D := (dC, dI)) (ci := 4) (v := .int (nI (cn))) (C := R_MO) (T := F_MO) (N := 11) hx hb ht i_MO hown hK hP 0 rfl rfl 10 (by decide) (ht _ q_3_123) (fun _ h9 => h9) rfl d_MO_item_7 ?_
    refine lv_icmp_lt (tgt := 17) hx hb d_MO_item_10 (by decide) (fun c0 => ?_) (fun c0 => ?_)
    · have c_10 : i < cn := (nI_ltI (a := i) (b := cn) (by omega) (by omega)).mp c0
      refine lv_iconst (v := nI (0)) hx hb d_MO_item_17 (by decide) ?_
      refine va_put (D := (dC, dI)) (ci := 4) (v := .int (nI (0))) (ty := .int) (C := R_MO) (T := F_MO) (N := 11) hx hb ht i_MO t_MO t_MO_ok n_MO hown hK hP hD hS 0 rfl rfl 0 (by decide) (ht _ q_3_113) (fun _ h9 => h9) rfl (by decide +kernel) (rfl) (rfl) (Nat.le_of_ble_eq_true rfl) d_MO_item_18 (fun H locs hP hD hS => ?_)
      have hP : va_P (dC, dI) classes [(h, .inr (4, [.int (nI (0)), .ref fa, .int (n0), .ref ga, .int (ld), .int (sz), .ref ra, .int (rz), .ref ka, .ref wa, .int (nI (cn))])), (ka, .inl (cI, 1100, .inl (kd))), (wa, .inl (cI, 1100, .inl (wd)))] _ := hP
      have hD : va_D A [(h, .inr (4, [.int (nI (0)), .ref fa, .int (n0), .ref ga, .int (ld), .int (sz), .ref ra, .int (rz), .ref ka, .ref wa, .int (nI (cn))])), (ka, .inl (cI, 1100, .inl (kd))), (wa, .inl (cI, 1100, .inl (wd)))] := hD
      refine lv_aload_n hx hb d_MO_item_21 rfl (lv_at hl 0 rfl) ?_
      refine va_get (D := (dC, dI)) (ci := 4) (v := .int (nI (0))) (C := R_MO) (T := F_MO) (N := 11) hx hb ht i_MO hown hK hP 0 rfl rfl 0 (by decide) (ht _ q_3_113) (fun _ h9 => h9) rfl d_MO_item_22 ?_
      refine lv_if_le (tgt := 32) hx hb d_MO_item_25 (by decide) (fun c0 => ?_) (fun c0 => ?_)
      · have c_25 : 0 ≤ 0 := (nI_leI (a := 0) (b := 0) (by omega) (by omega)).mp c0
        refine lv_aload_n hx hb d_MO_item_32 rfl (lv_at hl 0 rfl) ?_
        refine va_get (D := (dC, dI)) (ci := 4) (v := .ref ka) (C := R_MO) (T := F_MO) (N := 11) hx hb ht i_MO hown hK hP 0 rfl rfl 8 (by decide) (ht _ q_3_121) (fun _ h9 => h9) rfl d_MO_item_33 ?_
        refine lv_iload_n hx hb d_MO_item_36 rfl (lv_at hl 1 rfl) ?_
        refine va_iald hx hb hK hP 1 0 rfl rfl (vp_in_nI (by omega) (by omega)) d_MO_item_37 ?_
        refine fm_tw (z := kd (i)) (by rw [nI_clamp (by omega)]) ?_
        refine lv_sipush (v := nI (257)) hx hb d_MO_item_38 (by decide) ?_
        refine lv_icmp_ne (tgt := 53) hx hb d_MO_item_41 (by decide) (fun c0 => ?_) (fun c0 => ?_)
        · have c_41 := c0
          refine lv_aload_n hx hb d_MO_item_53 rfl (lv_at hl 0 rfl) ?_
          refine va_get (D := (dC, dI)) (ci := 4) (v := .ref ka) (C := R_MO) (T := F_MO) (N := 11) hx hb ht i_MO hown hK hP 0 rfl rfl 8 (by decide) (ht _ q_3_121) (fun _ h9 => h9) rfl d_MO_item_54 ?_
          refine lv_iload_n hx hb d_MO_item_57 rfl (lv_at hl 1 rfl) ?_
          refine va_iald hx hb hK hP 1 0 rfl rfl (vp_in_nI (by omega) (by omega)) d_MO_item_58 ?_
          refine fm_tw (z := kd (i)) (by rw [nI_clamp (by omega)]) ?_
          exact W.iret hx hb hr (fun t ht hW => ⟨congrArg (fun z => Outcome.returned (some (Value.int z))) (by rw [if_neg c_41]), by rw [ht]; exact hP, hS.F ht⟩) hS.2.2 d_MO_item_59
        · have c_41 := c0
          refine lv_aload_n hx hb d_MO_item_44 rfl (lv_at hl 0 rfl) ?_
          refine va_get (D := (dC, dI)) (ci := 4) (v := .ref wa) (C := R_MO) (T := F_MO) (N := 11) hx hb ht i_MO hown hK hP 0 rfl rfl 9 (by decide) (ht _ q_3_122) (fun _ h9 => h9) rfl d_MO_item_45 ?_
          refine lv_iload_n hx hb d_MO_item_48 rfl (lv_at hl 1 rfl) ?_
          refine va_iald hx hb hK hP 2 0 rfl rfl (vp_in_nI (by omega) (by omega)) d_MO_item_49 ?_
          refine fm_tw (z := wd (i)) (by rw [nI_clamp (by omega)]) ?_
          refine lv_goto (tgt := 59) hx hb d_MO_item_50 (by decide) ?_
          exact W.iret hx hb hr (fun t ht hW => ⟨congrArg (fun z => Outcome.returned (some (Value.int z))) (by rw [if_pos c_41]), by rw [ht]; exact hP, hS.F ht⟩) hS.2.2 d_MO_item_59
      · have c_25 : ¬ (0 ≤ 0) := fun z => c0 ((nI_leI (a := 0) (b := 0) (by omega) (by omega)).mpr z)
        exact absurd c_25 (by decide)
    · have c_10 : ¬ (i < cn) := fun z => c0 ((nI_ltI (a := i) (b := cn) (by omega) (by omega)).mpr z)
      exact absurd hi c_10
set_option maxHeartbeats 4000000 in
set_option maxRecDepth 100000 in
theorem c_MO_itemN (l : Launch) (dC : Nat → ClassId) (dI : Nat → Nat → Nat) (h : Nat) (th : Int32) (fa : Nat) (n0 : Int32) (ga : Nat) (ld : Int32) (sz : Int32) (ra : Nat) (rz : Int32) (ka : Nat) (wa : Nat) (cn : Nat) (x : Int32) (hno : x < 0 ∨ nI cn ≤ x) : fm_MW l (dC, dI) y_MO_item w_MO_item ({ frames := 0, cells := 0, slots := 0, locals := 0 }) [.ref h, .int (x)] [(h, .inr (4, [.int (th), .ref fa, .int (n0), .ref ga, .int (ld), .int (sz), .ref ra, .int (rz), .ref ka, .ref wa, .int (nI (cn))]))] [(h, .inr (4, [.int (nI (1)), .ref fa, .int (n0), .ref ga, .int (ld), .int (sz), .ref ra, .int (rz), .ref ka, .ref wa, .int (nI (cn))]))] [] (some (.int (nI (0)))) := by
  refine Met.ofW (cc := b_MO_item) (maxL := 2) (ret := (some .int)) (by decide) rfl ?_
  intro pg ev s m args below meth cd s₁ BD hml hv
  obtain ⟨rfl, hP, hK, hD0⟩ := hv
  have hx := BD.exec
  have hb := BD.bytes
  have hr := BD.returns
  have hts := atoms_spec (ws := w_MO_item) BD.pre
  have ht : ∀ w ∈ fm_T, w.before _ s = true := fun w h => hts w (List.mem_cons_of_mem _ h)
  have hown : s.vm.findClass R_MO = some m.cls := findClass_of_methodNamed BD.named
  have hlocks := BD.notSynchronized
  have S : CallFix pg m cd b_MO_item 2 s _ w_MO_item R_MO := ⟨hx, hb, hml, hown, hts⟩
  have hD := fm_selfD hD0
  generalize fm_A [(h, .inr (4, [.int (th), .ref fa, .int (n0), .ref ga, .int (ld), .int (sz), .ref ra, .int (rz), .ref ka, .ref wa, .int (nI (cn))]))] = A at hD ⊢
  have hS : va_S A s.heap s.heap [] := va_S.rf
  have hl := lv_entry ([.ref h, .int (x)]) (n := 2) (Nat.le_of_ble_eq_true rfl)
  rw [lg_entry_eq]
  generalize (lg_sl ([.ref h, .int (x)]) ++ List.replicate (2 - (lg_sl ([.ref h, .int (x)])).length) Slot.unset).toArray = ls at hl ⊢
  have hl : lv_has ls 2 [(0, .ref h), (1, .int (x))] := hl
  refine lv_aload_n hx hb d_MO_item_0 rfl (lv_at hl 0 rfl) ?_
  refine lv_iload_n hx hb d_MO_item_1 rfl (lv_at hl 1 rfl) ?_
  refine lv_if_lt (tgt := 13) hx hb d_MO_item_2 (by decide) (fun c0 => ?_) (fun c0 => ?_)
  · have c_2 := c0
    refine lv_iconst (v := nI (1)) hx hb d_MO_item_13 (by decide) ?_
    refine lv_goto (tgt := 18) hx hb d_MO_item_14 (by decide) ?_
    refine va_put (D := (dC, dI)) (ci := 4) (v := .int (nI (1))) (ty := .int) (C := R_MO) (T := F_MO) (N := 11) hx hb ht i_MO t_MO t_MO_ok n_MO hown hK hP hD hS 0 rfl rfl 0 (by decide) (ht _ q_3_113) (fun _ h9 => h9) rfl (by decide +kernel) (rfl) (rfl) (Nat.le_of_ble_eq_true rfl) d_MO_item_18 (fun H locs hP hD hS => ?_)
    have hP : va_P (dC, dI) classes [(h, .inr (4, [.int (nI (1)), .ref fa, .int (n0), .ref ga, .int (ld), .int (sz), .ref ra, .int (rz), .ref ka, .ref wa, .int (nI (cn))]))] _ := hP
    have hD : va_D A [(h, .inr (4, [.int (nI (1)), .ref fa, .int (n0), .ref ga, .int (ld), .int (sz), .ref ra, .int (rz), .ref ka, .ref wa, .int (nI (cn))]))] := hD
    refine lv_aload_n hx hb d_MO_item_21 rfl (lv_at hl 0 rfl) ?_
    refine va_get (D := (dC, dI)) (ci := 4) (v := .int (nI (1))) (C := R_MO) (T := F_MO) (N := 11) hx hb ht i_MO hown hK hP 0 rfl rfl 0 (by decide) (ht _ q_3_113) (fun _ h9 => h9) rfl d_MO_item_22 ?_
    refine lv_if_le (tgt := 32) hx hb d_MO_item_25 (by decide) (fun c0 => ?_) (fun c0 => ?_)
    · have c_25 : 1 ≤ 0 := (nI_leI (a := 1) (b := 0) (by omega) (by omega)).mp c0
      exact absurd c_25 (by decide)
    · have c_25 : ¬ (1 ≤ 0) := fun z => c0 ((nI_leI (a := 1) (b := 0) (by omega) (by omega)).mpr z)
      refine lv_iconst (v := nI (0)) hx hb d_MO_item_28 (by decide) ?_
      refine lv_goto (tgt := 59) hx hb d_MO_item_29 (by decide) ?_
      exact W.iret hx hb hr (fun t ht hW => ⟨congrArg (fun z => Outcome.returned (some (Value.int z))) (rfl), by rw [ht]; exact hP, hS.F ht⟩) hS.2.2 d_MO_item_59
  · have c_2 := c0
    refine lv_iload_n hx hb d_MO_item_5 rfl (lv_at hl 1 rfl) ?_
    refine lv_aload_n hx hb d_MO_item_6 rfl (lv_at hl 0 rfl) ?_
    refine va_get (D := (dC, dI)) (ci := 4) (v := .int (nI (cn))) (C := R_MO) (T := F_MO) (N := 11) hx hb ht i_MO hown hK hP 0 rfl rfl 10 (by decide) (ht _ q_3_123) (fun _ h9 => h9) rfl d_MO_item_7 ?_
    refine lv_icmp_lt (tgt := 17) hx hb d_MO_item_10 (by decide) (fun c0 => ?_) (fun c0 => ?_)
    · have c_10 := c0
      exact absurd c_10 (Int32.not_lt.mpr (hno.resolve_left c_2))
    · have c_10 := c0
      refine lv_iconst (v := nI (1)) hx hb d_MO_item_13 (by decide) ?_
      refine lv_goto (tgt := 18) hx hb d_MO_item_14 (by decide) ?_
      refine va_put (D := (dC, dI)) (ci := 4) (v := .int (nI (1))) (ty := .int) (C := R_MO) (T := F_MO) (N := 11) hx hb ht i_MO t_MO t_MO_ok n_MO hown hK hP hD hS 0 rfl rfl 0 (by decide) (ht _ q_3_113) (fun _ h9 => h9) rfl (by decide +kernel) (rfl) (rfl) (Nat.le_of_ble_eq_true rfl) d_MO_item_18 (fun H locs hP hD hS => ?_)
      have hP : va_P (dC, dI) classes [(h, .inr (4, [.int (nI (1)), .ref fa, .int (n0), .ref ga, .int (ld), .int (sz), .ref ra, .int (rz), .ref ka, .ref wa, .int (nI (cn))]))] _ := hP
      have hD : va_D A [(h, .inr (4, [.int (nI (1)), .ref fa, .int (n0), .ref ga, .int (ld), .int (sz), .ref ra, .int (rz), .ref ka, .ref wa, .int (nI (cn))]))] := hD
      refine lv_aload_n hx hb d_MO_item_21 rfl (lv_at hl 0 rfl) ?_
      refine va_get (D := (dC, dI)) (ci := 4) (v := .int (nI (1))) (C := R_MO) (T := F_MO) (N := 11) hx hb ht i_MO hown hK hP 0 rfl rfl 0 (by decide) (ht _ q_3_113) (fun _ h9 => h9) rfl d_MO_item_22 ?_
      refine lv_if_le (tgt := 32) hx hb d_MO_item_25 (by decide) (fun c0 => ?_) (fun c0 => ?_)
      · have c_25 : 1 ≤ 0 := (nI_leI (a := 1) (b := 0) (by omega) (by omega)).mp c0
        exact absurd c_25 (by decide)
      · have c_25 : ¬ (1 ≤ 0) := fun z => c0 ((nI_leI (a := 1) (b := 0) (by omega) (by omega)).mpr z)
        refine lv_iconst (v := nI (0)) hx hb d_MO_item_28 (by decide) ?_
        refine lv_goto (tgt := 59) hx hb d_MO_item_29 (by decide) ?_
        exact W.iret hx hb hr (fun t ht hW => ⟨congrArg (fun z => Outcome.returned (some (Value.int z))) (rfl), by rw [ht]; exact hP, hS.F ht⟩) hS.2.2 d_MO_item_59
theorem d_MO_thrown_0 : decode b_MO_thrown 0 = .ok (.aload_n 0, 1) := by decide +kernel
theorem d_MO_thrown_1 : decode b_MO_thrown 1 = .ok (.getfield 26, 3) := by decide +kernel
theorem d_MO_thrown_4 : decode b_MO_thrown 4 = .ok (.ireturn, 1) := by decide +kernel
set_option maxHeartbeats 4000000 in
set_option maxRecDepth 100000 in
theorem c_MO_thrown (l : Launch) (dC : Nat → ClassId) (dI : Nat → Nat → Nat) (h : Nat) (th : Int32) (fa : Nat) (n0 : Int32) (ga : Nat) (ld : Int32) (sz : Int32) (ra : Nat) (rz : Int32) (ka : Nat) (wa : Nat) (ct : Int32)  : fm_M l (dC, dI) y_MO_thrown w_MO_thrown ({ frames := 0, cells := 0, slots := 0, locals := 0 }) [.ref h] [(h, .inr (4, [.int (th), .ref fa, .int (n0), .ref ga, .int (ld), .int (sz), .ref ra, .int (rz), .ref ka, .ref wa, .int (ct)]))] [] ((th)) := by
  refine Met.ofW (cc := b_MO_thrown) (maxL := 1) (ret := (some .int)) (by decide) rfl ?_
  intro pg ev s m args below meth cd s₁ BD hml hv
  obtain ⟨rfl, hP, hK⟩ := hv
  have hx := BD.exec
  have hb := BD.bytes
  have hr := BD.returns
  have hts := atoms_spec (ws := w_MO_thrown) BD.pre
  have ht : ∀ w ∈ fm_T, w.before _ s = true := fun w h => hts w (List.mem_cons_of_mem _ h)
  have hown : s.vm.findClass R_MO = some m.cls := findClass_of_methodNamed BD.named
  have hlocks := BD.notSynchronized
  have S : CallFix pg m cd b_MO_thrown 1 s _ w_MO_thrown R_MO := ⟨hx, hb, hml, hown, hts⟩
  have hl := lv_entry ([.ref h]) (n := 1) (Nat.le_of_ble_eq_true rfl)
  rw [lg_entry_eq]
  generalize (lg_sl ([.ref h]) ++ List.replicate (1 - (lg_sl ([.ref h])).length) Slot.unset).toArray = ls at hl ⊢
  have hl : lv_has ls 1 [(0, .ref h)] := hl
  refine lv_aload_n hx hb d_MO_thrown_0 rfl (lv_at hl 0 rfl) ?_
  refine va_get (D := (dC, dI)) (ci := 4) (v := .int (th)) (C := R_MO) (T := F_MO) (N := 11) hx hb ht i_MO hown hK hP 0 rfl rfl 0 (by decide) (ht _ q_3_113) (fun _ h9 => h9) rfl d_MO_thrown_1 ?_
  exact W.iret hx hb hr (fun t ht hW => ⟨_, rfl, rfl, ht⟩) (fun q hq => by cases hq) d_MO_thrown_4
theorem d_MO_total_0 : decode b_MO_total 0 = .ok (.aload_n 0, 1) := by decide +kernel
theorem d_MO_total_1 : decode b_MO_total 1 = .ok (.iconst 0, 1) := by decide +kernel
theorem d_MO_total_2 : decode b_MO_total 2 = .ok (.putfield 26, 3) := by decide +kernel
theorem d_MO_total_5 : decode b_MO_total 5 = .ok (.lconst 0, 1) := by decide +kernel
theorem d_MO_total_6 : decode b_MO_total 6 = .ok (.lstore_n 1, 1) := by decide +kernel
theorem d_MO_total_7 : decode b_MO_total 7 = .ok (.iconst 0, 1) := by decide +kernel
theorem d_MO_total_8 : decode b_MO_total 8 = .ok (.istore_n 3, 1) := by decide +kernel
theorem d_MO_total_9 : decode b_MO_total 9 = .ok (.iload_n 3, 1) := by decide +kernel
theorem d_MO_total_10 : decode b_MO_total 10 = .ok (.aload_n 0, 1) := by decide +kernel
theorem d_MO_total_11 : decode b_MO_total 11 = .ok (.getfield 110, 3) := by decide +kernel
theorem d_MO_total_14 : decode b_MO_total 14 = .ok (.if_icmp .ge 45, 3) := by decide +kernel
theorem d_MO_total_17 : decode b_MO_total 17 = .ok (.lload_n 1, 1) := by decide +kernel
theorem d_MO_total_18 : decode b_MO_total 18 = .ok (.aload_n 0, 1) := by decide +kernel
theorem d_MO_total_19 : decode b_MO_total 19 = .ok (.getfield 19, 3) := by decide +kernel
theorem d_MO_total_22 : decode b_MO_total 22 = .ok (.iload_n 3, 1) := by decide +kernel
theorem d_MO_total_23 : decode b_MO_total 23 = .ok (.iaload, 1) := by decide +kernel
theorem d_MO_total_24 : decode b_MO_total 24 = .ok (.sipush 257, 3) := by decide +kernel
theorem d_MO_total_27 : decode b_MO_total 27 = .ok (.if_icmp .ne 12, 3) := by decide +kernel
theorem d_MO_total_30 : decode b_MO_total 30 = .ok (.aload_n 0, 1) := by decide +kernel
theorem d_MO_total_31 : decode b_MO_total 31 = .ok (.getfield 23, 3) := by decide +kernel
theorem d_MO_total_34 : decode b_MO_total 34 = .ok (.iload_n 3, 1) := by decide +kernel
theorem d_MO_total_35 : decode b_MO_total 35 = .ok (.iaload, 1) := by decide +kernel
theorem d_MO_total_36 : decode b_MO_total 36 = .ok (.goto 14, 3) := by decide +kernel
theorem d_MO_total_39 : decode b_MO_total 39 = .ok (.aload_n 0, 1) := by decide +kernel
theorem d_MO_total_40 : decode b_MO_total 40 = .ok (.aload_n 0, 1) := by decide +kernel
theorem d_MO_total_41 : decode b_MO_total 41 = .ok (.getfield 19, 3) := by decide +kernel
theorem d_MO_total_44 : decode b_MO_total 44 = .ok (.iload_n 3, 1) := by decide +kernel
theorem d_MO_total_45 : decode b_MO_total 45 = .ok (.iaload, 1) := by decide +kernel
theorem d_MO_total_46 : decode b_MO_total 46 = .ok (.iconst 0, 1) := by decide +kernel
theorem d_MO_total_47 : decode b_MO_total 47 = .ok (.invokevirtual 128, 3) := by decide +kernel
theorem d_MO_total_50 : decode b_MO_total 50 = .ok (.i2l, 1) := by decide +kernel
theorem d_MO_total_51 : decode b_MO_total 51 = .ok (.ladd, 1) := by decide +kernel
theorem d_MO_total_52 : decode b_MO_total 52 = .ok (.lstore_n 1, 1) := by decide +kernel
theorem d_MO_total_53 : decode b_MO_total 53 = .ok (.iinc 3 1, 3) := by decide +kernel
theorem d_MO_total_56 : decode b_MO_total 56 = .ok (.goto (-47), 3) := by decide +kernel
theorem d_MO_total_59 : decode b_MO_total 59 = .ok (.lload_n 1, 1) := by decide +kernel
theorem d_MO_total_60 : decode b_MO_total 60 = .ok (.lreturn, 1) := by decide +kernel
set_option maxHeartbeats 4000000 in
set_option maxRecDepth 100000 in
theorem c_MO_total (l : Launch) (dC : Nat → ClassId) (dI : Nat → Nat → Nat) (h : Nat) (th : Int32) (fa : Nat) (n0 : Int32) (ga : Nat) (ld : Int32) (ra : Nat) (rz : Int32) (ka : Nat) (wa : Nat) (cn : Nat) (s0 : Nat) (cB : ClassId) (cI : ClassId) (g : Nat → Int32) (kd : Nat → Int32) (wd : Nat → Int32) (hcn : cn ≤ 1100) (hT : 0 < cn → fm_Len (fm_RB g) ∧ fm_all (fm_WD (fm_RB g) 1) (fm_size1 (fm_RB g)) = true ∧ s0 < 134217728) (hkd : ∀ i, i < cn → kd i = nI 257 ∨ ∃ c, kd i = nI c ∧ fm_th (fm_RB g) c = true) : fm_MW l (dC, dI) y_MO_total w_MO_total ({ frames := 6, cells := 0, slots := 0, locals := 141 }) [.ref h] [(h, .inr (4, [.int (th), .ref fa, .int (n0), .ref ga, .int (ld), .int (nI (s0)), .ref ra, .int (rz), .ref ka, .ref wa, .int (nI (cn))])), (ga, .inl (cB, 8192, .inl (g))), (ka, .inl (cI, 1100, .inl (kd))), (wa, .inl (cI, 1100, .inl (wd)))] [(h, .inr (4, [.int (nI (0)), .ref fa, .int (n0), .ref ga, .int (ld), .int (nI (s0)), .ref ra, .int (rz), .ref ka, .ref wa, .int (nI (cn))])), (ga, .inl (cB, 8192, .inl (g))), (ka, .inl (cI, 1100, .inl (kd))), (wa, .inl (cI, 1100, .inl (wd)))] [(cB, .byte), (cI, .int)] (some (.long (fm_tot (fm_RB g) s0 kd wd cn))) := by
  refine Met.ofW (cc := b_MO_total) (maxL := 4) (ret := (some .long)) (by decide) rfl ?_
  intro pg ev s m args below meth cd s₁ BD hml hv
  obtain ⟨rfl, hP, hK, hD0⟩ := hv
  have hx := BD.exec
  have hb := BD.bytes
  have hr := BD.returns
  have hts := atoms_spec (ws := w_MO_total) BD.pre
  have ht : ∀ w ∈ fm_T, w.before _ s = true := fun w h => hts w (List.mem_cons_of_mem _ h)
  have hown : s.vm.findClass R_MO = some m.cls := findClass_of_methodNamed BD.named
  have hlocks := BD.notSynchronized
  have S : CallFix pg m cd b_MO_total 4 s _ w_MO_total R_MO := ⟨hx, hb, hml, hown, hts⟩
  have hD := fm_selfD hD0
  generalize fm_A [(h, .inr (4, [.int (th), .ref fa, .int (n0), .ref ga, .int (ld), .int (nI (s0)), .ref ra, .int (rz), .ref ka, .ref wa, .int (nI (cn))])), (ga, .inl (cB, 8192, .inl (g))), (ka, .inl (cI, 1100, .inl (kd))), (wa, .inl (cI, 1100, .inl (wd)))] = A at hD ⊢
  have hS : va_S A s.heap s.heap [] := va_S.rf
  have hl := lv_entry ([.ref h]) (n := 4) (Nat.le_of_ble_eq_true rfl)
  rw [lg_entry_eq]
  generalize (lg_sl ([.ref h]) ++ List.replicate (4 - (lg_sl ([.ref h])).length) Slot.unset).toArray = ls at hl ⊢
  have hl : lv_has ls 4 [(0, .ref h)] := hl
  refine lv_aload_n hx hb d_MO_total_0 rfl (lv_at hl 0 rfl) ?_
  refine lv_iconst (v := nI (0)) hx hb d_MO_total_1 (by decide) ?_
  refine va_put (D := (dC, dI)) (ci := 4) (v := .int (nI (0))) (ty := .int) (C := R_MO) (T := F_MO) (N := 11) hx hb ht i_MO t_MO t_MO_ok n_MO hown hK hP hD hS 0 rfl rfl 0 (by decide) (ht _ q_3_113) (fun _ h9 => h9) rfl (by decide +kernel) (rfl) (rfl) (Nat.le_of_ble_eq_true rfl) d_MO_total_2 (fun H locs hP hD hS => ?_)
  have hP : va_P (dC, dI) classes [(h, .inr (4, [.int (nI (0)), .ref fa, .int (n0), .ref ga, .int (ld), .int (nI (s0)), .ref ra, .int (rz), .ref ka, .ref wa, .int (nI (cn))])), (ga, .inl (cB, 8192, .inl (g))), (ka, .inl (cI, 1100, .inl (kd))), (wa, .inl (cI, 1100, .inl (wd)))] _ := hP
  have hD : va_D A [(h, .inr (4, [.int (nI (0)), .ref fa, .int (n0), .ref ga, .int (ld), .int (nI (s0)), .ref ra, .int (rz), .ref ka, .ref wa, .int (nI (cn))])), (ga, .inl (cB, 8192, .inl (g))), (ka, .inl (cI, 1100, .inl (kd))), (wa, .inl (cI, 1100, .inl (wd)))] := hD
  refine lv_lconst (v := 0) hx hb d_MO_total_5 (by decide) ?_
  refine lv_lstore_n (lv' := [(1, .long (0)), (0, .ref h)]) hx hb d_MO_total_6 rfl hl (by decide) rfl (fun ls hl => ?_)
  refine lv_iconst (v := nI (0)) hx hb d_MO_total_7 (by decide) ?_
  refine lv_istore_n (lv' := [(3, .int (nI (0))), (1, .long (0)), (0, .ref h)]) hx hb d_MO_total_8 rfl hl (by decide) rfl (fun ls hl => ?_)
  refine fm_loop1 (LV := fun (i : Nat) => [(0, .ref h), (1, .long (fm_tot (fm_RB g) s0 kd wd i)), (3, .int (nI (i)))]) (I := fun (i : Nat) => i ≤ cn) (μ := fun (i : Nat) => cn - i) ?_ 0 (Nat.zero_le _) ls (lv_sub hl [2, 1, 0] rfl)
  intro i hI_9 ih_9 ls hl
  have hl : lv_has ls 4 [(0, .ref h), (1, .long (fm_tot (fm_RB g) s0 kd wd i)), (3, .int (nI (i)))] := hl
  refine lv_iload_n hx hb d_MO_total_9 rfl (lv_at hl 2 rfl) ?_
  refine lv_aload_n hx hb d_MO_total_10 rfl (lv_at hl 0 rfl) ?_
  refine va_get (D := (dC, dI)) (ci := 4) (v := .int (nI (cn))) (C := R_MO) (T := F_MO) (N := 11) hx hb ht i_MO hown hK hP 0 rfl rfl 10 (by decide) (ht _ q_3_123) (fun _ h9 => h9) rfl d_MO_total_11 ?_
  refine lv_icmp_ge (tgt := 59) hx hb d_MO_total_14 (by decide) (fun c0 => ?_) (fun c0 => ?_)
  · have c_14 : cn ≤ i := (nI_leI (a := cn) (b := i) (by omega) (by omega)).mp c0
    refine lv_lload_n hx hb d_MO_total_59 rfl (lv_at hl 1 rfl) ?_
    exact W.lret hx hb hr (fun t ht hW => ⟨congrArg (fun z => Outcome.returned (some (Value.long z))) (by rw [show cn = i by omega]), by rw [ht]; exact hP, hS.F ht⟩) hS.2.2 d_MO_total_60
  · have c_14 : ¬ (cn ≤ i) := fun z => c0 ((nI_leI (a := cn) (b := i) (by omega) (by omega)).mpr z)
    obtain ⟨hL, hz, hs⟩ := hT (by omega)
    refine lv_lload_n hx hb d_MO_total_17 rfl (lv_at hl 1 rfl) ?_
    refine lv_aload_n hx hb d_MO_total_18 rfl (lv_at hl 0 rfl) ?_
    refine va_get (D := (dC, dI)) (ci := 4) (v := .ref ka) (C := R_MO) (T := F_MO) (N := 11) hx hb ht i_MO hown hK hP 0 rfl rfl 8 (by decide) (ht _ q_3_121) (fun _ h9 => h9) rfl d_MO_total_19 ?_
    refine lv_iload_n hx hb d_MO_total_22 rfl (lv_at hl 2 rfl) ?_
    refine va_iald hx hb hK hP 2 1 rfl rfl (vp_in_nI (by omega) (by omega)) d_MO_total_23 ?_
    refine fm_tw (z := kd (i)) (by rw [nI_clamp (by omega)]) ?_
    refine lv_sipush (v := nI (257)) hx hb d_MO_total_24 (by decide) ?_
    refine lv_icmp_ne (tgt := 39) hx hb d_MO_total_27 (by decide) (fun c0 => ?_) (fun c0 => ?_)
    · have c_27 := c0
      obtain ⟨c, hkc, hth⟩ := (hkd i (by omega)).resolve_left c_27
      obtain ⟨h1, h2, -⟩ := fm_th_in hth
      have hc255 : c ≤ 255 := Nat.le_trans h2 hL.2.2.1
      refine lv_aload_n hx hb d_MO_total_39 rfl (lv_at hl 0 rfl) ?_
      refine lv_aload_n hx hb d_MO_total_40 rfl (lv_at hl 0 rfl) ?_
      refine va_get (D := (dC, dI)) (ci := 4) (v := .ref ka) (C := R_MO) (T := F_MO) (N := 11) hx hb ht i_MO hown hK hP 0 rfl rfl 8 (by decide) (ht _ q_3_121) (fun _ h9 => h9) rfl d_MO_total_41 ?_
      refine lv_iload_n hx hb d_MO_total_44 rfl (lv_at hl 2 rfl) ?_
      refine va_iald hx hb hK hP 2 1 rfl rfl (vp_in_nI (by omega) (by omega)) d_MO_total_45 ?_
      refine fm_tw (z := kd (i)) (by rw [nI_clamp (by omega)]) ?_
      refine fm_tw (z := nI (c)) (hkc) ?_
      refine lv_iconst (v := nI (0)) hx hb d_MO_total_46 (by decide) ?_
      refine fm_cv S (c_MO_sizeOf l dC dI h (nI (0)) fa n0 ga ld s0 ra rz ka wa (nI (cn)) cB g c 0 (hL) (h1) (h2) (hz) (hs) (by decide)) rfl rfl k_MO_sizeOf q_4_2 ⟨Nat.le_of_ble_eq_true rfl, Nat.le_of_ble_eq_true rfl⟩ (hP.sub [0, 1] rfl) (hK.sub [0] rfl) 0 rfl rfl rfl hl.1 rfl (Nat.le_of_ble_eq_true rfl) ⟨Nat.zero_le _, Nat.zero_le _⟩ d_MO_total_47 ?_
      refine lv_i2l hx hb d_MO_total_50 rfl ?_
      refine lv_ladd hx hb d_MO_total_51 ?_
      refine fm_twl (z := fm_tot (fm_RB g) s0 kd wd (i + 1)) (by first | (show _ = fm_tot (fm_RB g) s0 kd wd i + _; rw [if_pos c_27]; done) | (show _ = fm_tot (fm_RB g) s0 kd wd i + _; rw [if_neg c_27, hkc, nI_clamp (by omega)]; done)) ?_
      refine lv_lstore_n (lv' := [(1, .long (fm_tot (fm_RB g) s0 kd wd (i + 1))), (0, .ref h), (3, .int (nI (i)))]) hx hb d_MO_total_52 rfl hl (by decide) rfl (fun ls hl => ?_)
      refine lv_iinc (v := nI (i + 1)) (lv' := [(3, .int (nI (i + 1))), (1, .long (fm_tot (fm_RB g) s0 kd wd (i + 1))), (0, .ref h)]) hx hb d_MO_total_53 hl (k := 2) rfl (nI_1 _) (by decide) rfl (fun ls hl => ?_)
      refine lv_goto (tgt := 9) hx hb d_MO_total_56 (by decide) ?_
      exact ih_9 (i + 1) ls (by omega) (by omega) (lv_sub hl [2, 1, 0] rfl)
    · have c_27 := c0
      refine lv_aload_n hx hb d_MO_total_30 rfl (lv_at hl 0 rfl) ?_
      refine va_get (D := (dC, dI)) (ci := 4) (v := .ref wa) (C := R_MO) (T := F_MO) (N := 11) hx hb ht i_MO hown hK hP 0 rfl rfl 9 (by decide) (ht _ q_3_122) (fun _ h9 => h9) rfl d_MO_total_31 ?_
      refine lv_iload_n hx hb d_MO_total_34 rfl (lv_at hl 2 rfl) ?_
      refine va_iald hx hb hK hP 3 1 rfl rfl (vp_in_nI (by omega) (by omega)) d_MO_total_35 ?_
      refine fm_tw (z := wd (i)) (by rw [nI_clamp (by omega)]) ?_
      refine lv_goto (tgt := 50) hx hb d_MO_total_36 (by decide) ?_
      refine lv_i2l hx hb d_MO_total_50 rfl ?_
      refine lv_ladd hx hb d_MO_total_51 ?_
      refine fm_twl (z := fm_tot (fm_RB g) s0 kd wd (i + 1)) (by first | (show _ = fm_tot (fm_RB g) s0 kd wd i + _; rw [if_pos c_27]; done) | (show _ = fm_tot (fm_RB g) s0 kd wd i + _; rw [if_neg c_27, hkc, nI_clamp (by omega)]; done)) ?_
      refine lv_lstore_n (lv' := [(1, .long (fm_tot (fm_RB g) s0 kd wd (i + 1))), (0, .ref h), (3, .int (nI (i)))]) hx hb d_MO_total_52 rfl hl (by decide) rfl (fun ls hl => ?_)
      refine lv_iinc (v := nI (i + 1)) (lv' := [(3, .int (nI (i + 1))), (1, .long (fm_tot (fm_RB g) s0 kd wd (i + 1))), (0, .ref h)]) hx hb d_MO_total_53 hl (k := 2) rfl (nI_1 _) (by decide) rfl (fun ls hl => ?_)
      refine lv_goto (tgt := 9) hx hb d_MO_total_56 (by decide) ?_
      exact ih_9 (i + 1) ls (by omega) (by omega) (lv_sub hl [2, 1, 0] rfl)
theorem d_MO_insert_0 : decode b_MO_insert 0 = .ok (.aload_n 0, 1) := by decide +kernel
theorem d_MO_insert_1 : decode b_MO_insert 1 = .ok (.getfield 110, 3) := by decide +kernel
theorem d_MO_insert_4 : decode b_MO_insert 4 = .ok (.istore 4, 2) := by decide +kernel
theorem d_MO_insert_6 : decode b_MO_insert 6 = .ok (.iload 4, 2) := by decide +kernel
theorem d_MO_insert_8 : decode b_MO_insert 8 = .ok (.iload_n 1, 1) := by decide +kernel
theorem d_MO_insert_9 : decode b_MO_insert 9 = .ok (.if_icmp .le 41, 3) := by decide +kernel
theorem d_MO_insert_12 : decode b_MO_insert 12 = .ok (.aload_n 0, 1) := by decide +kernel
theorem d_MO_insert_13 : decode b_MO_insert 13 = .ok (.getfield 19, 3) := by decide +kernel
theorem d_MO_insert_16 : decode b_MO_insert 16 = .ok (.iload 4, 2) := by decide +kernel
theorem d_MO_insert_18 : decode b_MO_insert 18 = .ok (.aload_n 0, 1) := by decide +kernel
theorem d_MO_insert_19 : decode b_MO_insert 19 = .ok (.getfield 19, 3) := by decide +kernel
theorem d_MO_insert_22 : decode b_MO_insert 22 = .ok (.iload 4, 2) := by decide +kernel
theorem d_MO_insert_24 : decode b_MO_insert 24 = .ok (.iconst 1, 1) := by decide +kernel
theorem d_MO_insert_25 : decode b_MO_insert 25 = .ok (.isub, 1) := by decide +kernel
theorem d_MO_insert_26 : decode b_MO_insert 26 = .ok (.iaload, 1) := by decide +kernel
theorem d_MO_insert_27 : decode b_MO_insert 27 = .ok (.iastore, 1) := by decide +kernel
theorem d_MO_insert_28 : decode b_MO_insert 28 = .ok (.aload_n 0, 1) := by decide +kernel
theorem d_MO_insert_29 : decode b_MO_insert 29 = .ok (.getfield 23, 3) := by decide +kernel
theorem d_MO_insert_32 : decode b_MO_insert 32 = .ok (.iload 4, 2) := by decide +kernel
theorem d_MO_insert_34 : decode b_MO_insert 34 = .ok (.aload_n 0, 1) := by decide +kernel
theorem d_MO_insert_35 : decode b_MO_insert 35 = .ok (.getfield 23, 3) := by decide +kernel
theorem d_MO_insert_38 : decode b_MO_insert 38 = .ok (.iload 4, 2) := by decide +kernel
theorem d_MO_insert_40 : decode b_MO_insert 40 = .ok (.iconst 1, 1) := by decide +kernel
theorem d_MO_insert_41 : decode b_MO_insert 41 = .ok (.isub, 1) := by decide +kernel
theorem d_MO_insert_42 : decode b_MO_insert 42 = .ok (.iaload, 1) := by decide +kernel
theorem d_MO_insert_43 : decode b_MO_insert 43 = .ok (.iastore, 1) := by decide +kernel
theorem d_MO_insert_44 : decode b_MO_insert 44 = .ok (.iinc 4 (-1), 3) := by decide +kernel
theorem d_MO_insert_47 : decode b_MO_insert 47 = .ok (.goto (-41), 3) := by decide +kernel
theorem d_MO_insert_50 : decode b_MO_insert 50 = .ok (.aload_n 0, 1) := by decide +kernel
theorem d_MO_insert_51 : decode b_MO_insert 51 = .ok (.getfield 19, 3) := by decide +kernel
theorem d_MO_insert_54 : decode b_MO_insert 54 = .ok (.iload_n 1, 1) := by decide +kernel
theorem d_MO_insert_55 : decode b_MO_insert 55 = .ok (.iload_n 2, 1) := by decide +kernel
theorem d_MO_insert_56 : decode b_MO_insert 56 = .ok (.iastore, 1) := by decide +kernel
theorem d_MO_insert_57 : decode b_MO_insert 57 = .ok (.aload_n 0, 1) := by decide +kernel
theorem d_MO_insert_58 : decode b_MO_insert 58 = .ok (.getfield 23, 3) := by decide +kernel
theorem d_MO_insert_61 : decode b_MO_insert 61 = .ok (.iload_n 1, 1) := by decide +kernel
theorem d_MO_insert_62 : decode b_MO_insert 62 = .ok (.iload_n 3, 1) := by decide +kernel
theorem d_MO_insert_63 : decode b_MO_insert 63 = .ok (.iastore, 1) := by decide +kernel
theorem d_MO_insert_64 : decode b_MO_insert 64 = .ok (.aload_n 0, 1) := by decide +kernel
theorem d_MO_insert_65 : decode b_MO_insert 65 = .ok (.dup, 1) := by decide +kernel
theorem d_MO_insert_66 : decode b_MO_insert 66 = .ok (.getfield 110, 3) := by decide +kernel
theorem d_MO_insert_69 : decode b_MO_insert 69 = .ok (.iconst 1, 1) := by decide +kernel
theorem d_MO_insert_70 : decode b_MO_insert 70 = .ok (.iadd, 1) := by decide +kernel
theorem d_MO_insert_71 : decode b_MO_insert 71 = .ok (.putfield 110, 3) := by decide +kernel
theorem d_MO_insert_74 : decode b_MO_insert 74 = .ok (.return_, 1) := by decide +kernel
set_option maxHeartbeats 4000000 in
set_option maxRecDepth 100000 in
theorem c_MO_insert (l : Launch) (dC : Nat → ClassId) (dI : Nat → Nat → Nat) (h : Nat) (th : Int32) (fa : Nat) (n0 : Int32) (ga : Nat) (ld : Int32) (sz : Int32) (ra : Nat) (rz : Int32) (ka : Nat) (wa : Nat) (cn : Nat) (cI : ClassId) (kd : Nat → Int32) (wd : Nat → Int32) (i : Nat) (v : Int32) (u : Int32) (hcn : cn < 1100) (hi : i ≤ cn) : fm_MW l (dC, dI) y_MO_insert w_MO_insert ({ frames := 0, cells := 0, slots := 0, locals := 0 }) [.ref h, .int (nI (i)), .int (v), .int (u)] [(h, .inr (4, [.int (th), .ref fa, .int (n0), .ref ga, .int (ld), .int (sz), .ref ra, .int (rz), .ref ka, .ref wa, .int (nI (cn))])), (ka, .inl (cI, 1100, .inl (kd))), (wa, .inl (cI, 1100, .inl (wd)))] [(h, .inr (4, [.int (th), .ref fa, .int (n0), .ref ga, .int (ld), .int (sz), .ref ra, .int (rz), .ref ka, .ref wa, .int (nI (cn + 1))])), (ka, .inl (cI, 1100, .inl (fm_ins kd cn i v))), (wa, .inl (cI, 1100, .inl (fm_ins wd cn i u)))] [(cI, .int)] none := by
  refine Met.ofW (cc := b_MO_insert) (maxL := 5) (ret := none) (by decide) rfl ?_
  intro pg ev s m args below meth cd s₁ BD hml hv
  obtain ⟨rfl, hP, hK, hD0⟩ := hv
  have hx := BD.exec
  have hb := BD.bytes
  have hr := BD.returns
  have hts := atoms_spec (ws := w_MO_insert) BD.pre
  have ht : ∀ w ∈ fm_T, w.before _ s = true := fun w h => hts w (List.mem_cons_of_mem _ h)
  have hown : s.vm.findClass R_MO = some m.cls := findClass_of_methodNamed BD.named
  have hlocks := BD.notSynchronized
  have S : CallFix pg m cd b_MO_insert 5 s _ w_MO_insert R_MO := ⟨hx, hb, hml, hown, hts⟩
  have hD := fm_selfD hD0
  generalize fm_A [(h, .inr (4, [.int (th), .ref fa, .int (n0), .ref ga, .int (ld), .int (sz), .ref ra, .int (rz), .ref ka, .ref wa, .int (nI (cn))])), (ka, .inl (cI, 1100, .inl (kd))), (wa, .inl (cI, 1100, .inl (wd)))] = A at hD ⊢
  have hS : va_S A s.heap s.heap [] := va_S.rf
  have hl := lv_entry ([.ref h, .int (nI (i)), .int (v), .int (u)]) (n := 5) (Nat.le_of_ble_eq_true rfl)
  rw [lg_entry_eq]
  generalize (lg_sl ([.ref h, .int (nI (i)), .int (v), .int (u)]) ++ List.replicate (5 - (lg_sl ([.ref h, .int (nI (i)), .int (v), .int (u)])).length) Slot.unset).toArray = ls at hl ⊢
  have hl : lv_has ls 5 [(0, .ref h), (1, .int (nI (i))), (2, .int (v)), (3, .int (u))] := hl
  refine lv_aload_n hx hb d_MO_insert_0 rfl (lv_at hl 0 rfl) ?_
  refine va_get (D := (dC, dI)) (ci := 4) (v := .int (nI (cn))) (C := R_MO) (T := F_MO) (N := 11) hx hb ht i_MO hown hK hP 0 rfl rfl 10 (by decide) (ht _ q_3_123) (fun _ h9 => h9) rfl d_MO_insert_1 ?_
  refine lv_istore (lv' := [(4, .int (nI (cn))), (0, .ref h), (1, .int (nI (i))), (2, .int (v)), (3, .int (u))]) hx hb d_MO_insert_4 hl (by decide) rfl (fun ls hl => ?_)
  refine fm_wloop1 (nL := 5) (LV := fun (k : Nat) => [(0, .ref h), (1, .int (nI (i))), (2, .int (v)), (3, .int (u)), (4, .int (nI (k)))]) (WS := fun (k : Nat) => [(h, .inr (4, [.int (th), .ref fa, .int (n0), .ref ga, .int (ld), .int (sz), .ref ra, .int (rz), .ref ka, .ref wa, .int (nI (cn))])), (ka, .inl (cI, 1100, .inl (fm_sh kd cn k))), (wa, .inl (cI, 1100, .inl (fm_sh wd cn k)))]) (I := fun (k : Nat) => i ≤ k ∧ k ≤ cn) (μ := fun (k : Nat) => k) ?_ cn (⟨hi, Nat.le_refl _⟩) (by rw [fm_sh_0, fm_sh_0]; exact hP) (by rw [fm_sh_0, fm_sh_0]; exact hD) hS ls (lv_sub hl [1, 2, 3, 4, 0] rfl)
  intro k hI_6 ih_6 H locs ls hP hD hS hl
  have hl : lv_has ls 5 [(0, .ref h), (1, .int (nI (i))), (2, .int (v)), (3, .int (u)), (4, .int (nI (k)))] := hl
  have hP : va_P (dC, dI) classes [(h, .inr (4, [.int (th), .ref fa, .int (n0), .ref ga, .int (ld), .int (sz), .ref ra, .int (rz), .ref ka, .ref wa, .int (nI (cn))])), (ka, .inl (cI, 1100, .inl (fm_sh kd cn k))), (wa, .inl (cI, 1100, .inl (fm_sh wd cn k)))] _ := hP
  have hD : va_D A [(h, .inr (4, [.int (th), .ref fa, .int (n0), .ref ga, .int (ld), .int (sz), .ref ra, .int (rz), .ref ka, .ref wa, .int (nI (cn))])), (ka, .inl (cI, 1100, .inl (fm_sh kd cn k))), (wa, .inl (cI, 1100, .inl (fm_sh wd cn k)))] := hD
  refine lv_iload hx hb d_MO_insert_6 (lv_at hl 4 rfl) ?_
  refine lv_iload_n hx hb d_MO_insert_8 rfl (lv_at hl 1 rfl) ?_
  refine lv_icmp_le (tgt := 50) hx hb d_MO_insert_9 (by decide) (fun c0 => ?_) (fun c0 => ?_)
  · have c_9 : k ≤ i := (nI_leI (a := k) (b := i) (by omega) (by omega)).mp c0
    obtain rfl : k = i := by omega
    refine lv_aload_n hx hb d_MO_insert_50 rfl (lv_at hl 0 rfl) ?_
    refine va_get (D := (dC, dI)) (ci := 4) (v := .ref ka) (C := R_MO) (T := F_MO) (N := 11) hx hb ht i_MO hown hK hP 0 rfl rfl 8 (by decide) (ht _ q_3_121) (fun _ h9 => h9) rfl d_MO_insert_51 ?_
    refine lv_iload_n hx hb d_MO_insert_54 rfl (lv_at hl 1 rfl) ?_
    refine lv_iload_n hx hb d_MO_insert_55 rfl (lv_at hl 2 rfl) ?_
    refine va_iast hx hb hK hP hD hS 1 0 rfl rfl (vp_in_nI (by omega) (by omega)) d_MO_insert_56 (fun H locs hP hD hS => ?_)
    have hP : va_P (dC, dI) classes [(h, .inr (4, [.int (th), .ref fa, .int (n0), .ref ga, .int (ld), .int (sz), .ref ra, .int (rz), .ref ka, .ref wa, .int (nI (cn))])), (ka, .inl (cI, 1100, .inl (upd (fm_sh kd cn k) (nI (k)).toNatClampNeg ((v))))), (wa, .inl (cI, 1100, .inl (fm_sh wd cn k)))] _ := hP
    have hD : va_D A [(h, .inr (4, [.int (th), .ref fa, .int (n0), .ref ga, .int (ld), .int (sz), .ref ra, .int (rz), .ref ka, .ref wa, .int (nI (cn))])), (ka, .inl (cI, 1100, .inl (upd (fm_sh kd cn k) (nI (k)).toNatClampNeg ((v))))), (wa, .inl (cI, 1100, .inl (fm_sh wd cn k)))] := hD
    rw [nI_clamp (show k < 2 ^ 31 by omega)] at hP hD
    have hP : va_P (dC, dI) classes [(h, .inr (4, [.int (th), .ref fa, .int (n0), .ref ga, .int (ld), .int (sz), .ref ra, .int (rz), .ref ka, .ref wa, .int (nI (cn))])), (ka, .inl (cI, 1100, .inl (upd (fm_sh kd cn k) (k) ((v))))), (wa, .inl (cI, 1100, .inl (fm_sh wd cn k)))] _ := hP
    have hD : va_D A [(h, .inr (4, [.int (th), .ref fa, .int (n0), .ref ga, .int (ld), .int (sz), .ref ra, .int (rz), .ref ka, .ref wa, .int (nI (cn))])), (ka, .inl (cI, 1100, .inl (upd (fm_sh kd cn k) (k) ((v))))), (wa, .inl (cI, 1100, .inl (fm_sh wd cn k)))] := hD
    refine lv_aload_n hx hb d_MO_insert_57 rfl (lv_at hl 0 rfl) ?_
    refine va_get (D := (dC, dI)) (ci := 4) (v := .ref wa) (C := R_MO) (T := F_MO) (N := 11) hx hb ht i_MO hown hK hP 0 rfl rfl 9 (by decide) (ht _ q_3_122) (fun _ h9 => h9) rfl d_MO_insert_58 ?_
    refine lv_iload_n hx hb d_MO_insert_61 rfl (lv_at hl 1 rfl) ?_
    refine lv_iload_n hx hb d_MO_insert_62 rfl (lv_at hl 3 rfl) ?_
    refine va_iast hx hb hK hP hD hS 2 0 rfl rfl (vp_in_nI (by omega) (by omega)) d_MO_insert_63 (fun H locs hP hD hS => ?_)
    have hP : va_P (dC, dI) classes [(h, .inr (4, [.int (th), .ref fa, .int (n0), .ref ga, .int (ld), .int (sz), .ref ra, .int (rz), .ref ka, .ref wa, .int (nI (cn))])), (ka, .inl (cI, 1100, .inl (upd (fm_sh kd cn k) (k) ((v))))), (wa, .inl (cI, 1100, .inl (upd (fm_sh wd cn k) (nI (k)).toNatClampNeg ((u)))))] _ := hP
    have hD : va_D A [(h, .inr (4, [.int (th), .ref fa, .int (n0), .ref ga, .int (ld), .int (sz), .ref ra, .int (rz), .ref ka, .ref wa, .int (nI (cn))])), (ka, .inl (cI, 1100, .inl (upd (fm_sh kd cn k) (k) ((v))))), (wa, .inl (cI, 1100, .inl (upd (fm_sh wd cn k) (nI (k)).toNatClampNeg ((u)))))] := hD
    rw [nI_clamp (show k < 2 ^ 31 by omega)] at hP hD
    have hP : va_P (dC, dI) classes [(h, .inr (4, [.int (th), .ref fa, .int (n0), .ref ga, .int (ld), .int (sz), .ref ra, .int (rz), .ref ka, .ref wa, .int (nI (cn))])), (ka, .inl (cI, 1100, .inl (upd (fm_sh kd cn k) (k) ((v))))), (wa, .inl (cI, 1100, .inl (upd (fm_sh wd cn k) (k) ((u)))))] _ := hP
    have hD : va_D A [(h, .inr (4, [.int (th), .ref fa, .int (n0), .ref ga, .int (ld), .int (sz), .ref ra, .int (rz), .ref ka, .ref wa, .int (nI (cn))])), (ka, .inl (cI, 1100, .inl (upd (fm_sh kd cn k) (k) ((v))))), (wa, .inl (cI, 1100, .inl (upd (fm_sh wd cn k) (k) ((u)))))] := hD
    refine lv_aload_n hx hb d_MO_insert_64 rfl (lv_at hl 0 rfl) ?_
    refine lv_dup hx hb d_MO_insert_65 rfl ?_
    refine va_get (D := (dC, dI)) (ci := 4) (v := .int (nI (cn))) (C := R_MO) (T := F_MO) (N := 11) hx hb ht i_MO hown hK hP 0 rfl rfl 10 (by decide) (ht _ q_3_123) (fun _ h9 => h9) rfl d_MO_insert_66 ?_
    refine lv_iconst (v := nI (1)) hx hb d_MO_insert_69 (by decide) ?_
    refine lv_iadd hx hb d_MO_insert_70 ?_
    refine fm_tw (z := nI (cn + 1)) (nI_add _ _) ?_
    refine va_put (D := (dC, dI)) (ci := 4) (v := .int (nI (cn + 1))) (ty := .int) (C := R_MO) (T := F_MO) (N := 11) hx hb ht i_MO t_MO t_MO_ok n_MO hown hK hP hD hS 0 rfl rfl 10 (by decide) (ht _ q_3_123) (fun _ h9 => h9) rfl (by decide +kernel) (rfl) (rfl) (Nat.le_of_ble_eq_true rfl) d_MO_insert_71 (fun H locs hP hD hS => ?_)
    have hP : va_P (dC, dI) classes [(h, .inr (4, [.int (th), .ref fa, .int (n0), .ref ga, .int (ld), .int (sz), .ref ra, .int (rz), .ref ka, .ref wa, .int (nI (cn + 1))])), (ka, .inl (cI, 1100, .inl (upd (fm_sh kd cn k) (k) ((v))))), (wa, .inl (cI, 1100, .inl (upd (fm_sh wd cn k) (k) ((u)))))] _ := hP
    have hD : va_D A [(h, .inr (4, [.int (th), .ref fa, .int (n0), .ref ga, .int (ld), .int (sz), .ref ra, .int (rz), .ref ka, .ref wa, .int (nI (cn + 1))])), (ka, .inl (cI, 1100, .inl (upd (fm_sh kd cn k) (k) ((v))))), (wa, .inl (cI, 1100, .inl (upd (fm_sh wd cn k) (k) ((u)))))] := hD
    exact W.vret hx hb hr (fun t ht hW => ⟨rfl, by rw [ht]; exact hP, hS.F ht⟩) hS.2.2 d_MO_insert_74
  · have c_9 : ¬ (k ≤ i) := fun z => c0 ((nI_leI (a := k) (b := i) (by omega) (by omega)).mpr z)
    obtain ⟨k2, rfl⟩ : ∃ q, k = q + 1 := ⟨k - 1, by omega⟩
    refine lv_aload_n hx hb d_MO_insert_12 rfl (lv_at hl 0 rfl) ?_
    refine va_get (D := (dC, dI)) (ci := 4) (v := .ref ka) (C := R_MO) (T := F_MO) (N := 11) hx hb ht i_MO hown hK hP 0 rfl rfl 8 (by decide) (ht _ q_3_121) (fun _ h9 => h9) rfl d_MO_insert_13 ?_
    refine lv_iload hx hb d_MO_insert_16 (lv_at hl 4 rfl) ?_
    refine lv_aload_n hx hb d_MO_insert_18 rfl (lv_at hl 0 rfl) ?_
    refine va_get (D := (dC, dI)) (ci := 4) (v := .ref ka) (C := R_MO) (T := F_MO) (N := 11) hx hb ht i_MO hown hK hP 0 rfl rfl 8 (by decide) (ht _ q_3_121) (fun _ h9 => h9) rfl d_MO_insert_19 ?_
    refine lv_iload hx hb d_MO_insert_22 (lv_at hl 4 rfl) ?_
    refine lv_iconst (v := nI (1)) hx hb d_MO_insert_24 (by decide) ?_
    refine lv_isub hx hb d_MO_insert_25 ?_
    refine fm_tw (z := nI ((k2 + 1) - 1)) (pk_sub (by omega)) ?_
    refine va_iald hx hb hK hP 1 0 rfl rfl (vp_in_nI (by omega) (by omega)) d_MO_insert_26 ?_
    refine fm_tw (z := (fm_sh kd cn (k2 + 1)) ((k2 + 1) - 1)) (by rw [nI_clamp (by omega)]) ?_
    refine va_iast hx hb hK hP hD hS 1 0 rfl rfl (vp_in_nI (by omega) (by omega)) d_MO_insert_27 (fun H locs hP hD hS => ?_)
    have hP : va_P (dC, dI) classes [(h, .inr (4, [.int (th), .ref fa, .int (n0), .ref ga, .int (ld), .int (sz), .ref ra, .int (rz), .ref ka, .ref wa, .int (nI (cn))])), (ka, .inl (cI, 1100, .inl (upd (fm_sh kd cn (k2 + 1)) (nI ((k2 + 1))).toNatClampNeg (((fm_sh kd cn (k2 + 1)) ((k2 + 1) - 1)))))), (wa, .inl (cI, 1100, .inl (fm_sh wd cn (k2 + 1))))] _ := hP
    have hD : va_D A [(h, .inr (4, [.int (th), .ref fa, .int (n0), .ref ga, .int (ld), .int (sz), .ref ra, .int (rz), .ref ka, .ref wa, .int (nI (cn))])), (ka, .inl (cI, 1100, .inl (upd (fm_sh kd cn (k2 + 1)) (nI ((k2 + 1))).toNatClampNeg (((fm_sh kd cn (k2 + 1)) ((k2 + 1) - 1)))))), (wa, .inl (cI, 1100, .inl (fm_sh wd cn (k2 + 1))))] := hD
    rw [nI_clamp (show (k2 + 1) < 2 ^ 31 by omega)] at hP hD
    have hP : va_P (dC, dI) classes [(h, .inr (4, [.int (th), .ref fa, .int (n0), .ref ga, .int (ld), .int (sz), .ref ra, .int (rz), .ref ka, .ref wa, .int (nI (cn))])), (ka, .inl (cI, 1100, .inl (upd (fm_sh kd cn (k2 + 1)) ((k2 + 1)) (((fm_sh kd cn (k2 + 1)) ((k2 + 1) - 1)))))), (wa, .inl (cI, 1100, .inl (fm_sh wd cn (k2 + 1))))] _ := hP
    have hD : va_D A [(h, .inr (4, [.int (th), .ref fa, .int (n0), .ref ga, .int (ld), .int (sz), .ref ra, .int (rz), .ref ka, .ref wa, .int (nI (cn))])), (ka, .inl (cI, 1100, .inl (upd (fm_sh kd cn (k2 + 1)) ((k2 + 1)) (((fm_sh kd cn (k2 + 1)) ((k2 + 1) - 1)))))), (wa, .inl (cI, 1100, .inl (fm_sh wd cn (k2 + 1))))] := hD
    refine lv_aload_n hx hb d_MO_insert_28 rfl (lv_at hl 0 rfl) ?_
    refine va_get (D := (dC, dI)) (ci := 4) (v := .ref wa) (C := R_MO) (T := F_MO) (N := 11) hx hb ht i_MO hown hK hP 0 rfl rfl 9 (by decide) (ht _ q_3_122) (fun _ h9 => h9) rfl d_MO_insert_29 ?_
    refine lv_iload hx hb d_MO_insert_32 (lv_at hl 4 rfl) ?_
    refine lv_aload_n hx hb d_MO_insert_34 rfl (lv_at hl 0 rfl) ?_
    refine va_get (D := (dC, dI)) (ci := 4) (v := .ref wa) (C := R_MO) (T := F_MO) (N := 11) hx hb ht i_MO hown hK hP 0 rfl rfl 9 (by decide) (ht _ q_3_122) (fun _ h9 => h9) rfl d_MO_insert_35 ?_
    refine lv_iload hx hb d_MO_insert_38 (lv_at hl 4 rfl) ?_
    refine lv_iconst (v := nI (1)) hx hb d_MO_insert_40 (by decide) ?_
    refine lv_isub hx hb d_MO_insert_41 ?_
    refine fm_tw (z := nI ((k2 + 1) - 1)) (pk_sub (by omega)) ?_
    refine va_iald hx hb hK hP 2 0 rfl rfl (vp_in_nI (by omega) (by omega)) d_MO_insert_42 ?_
    refine fm_tw (z := (fm_sh wd cn (k2 + 1)) ((k2 + 1) - 1)) (by rw [nI_clamp (by omega)]) ?_
    refine va_iast hx hb hK hP hD hS 2 0 rfl rfl (vp_in_nI (by omega) (by omega)) d_MO_insert_43 (fun H locs hP hD hS => ?_)
    have hP : va_P (dC, dI) classes [(h, .inr (4, [.int (th), .ref fa, .int (n0), .ref ga, .int (ld), .int (sz), .ref ra, .int (rz), .ref ka, .ref wa, .int (nI (cn))])), (ka, .inl (cI, 1100, .inl (upd (fm_sh kd cn (k2 + 1)) ((k2 + 1)) (((fm_sh kd cn (k2 + 1)) ((k2 + 1) - 1)))))), (wa, .inl (cI, 1100, .inl (upd (fm_sh wd cn (k2 + 1)) (nI ((k2 + 1))).toNatClampNeg (((fm_sh wd cn (k2 + 1)) ((k2 + 1) - 1))))))] _ := hP
    have hD : va_D A [(h, .inr (4, [.int (th), .ref fa, .int (n0), .ref ga, .int (ld), .int (sz), .ref ra, .int (rz), .ref ka, .ref wa, .int (nI (cn))])), (ka, .inl (cI, 1100, .inl (upd (fm_sh kd cn (k2 + 1)) ((k2 + 1)) (((fm_sh kd cn (k2 + 1)) ((k2 + 1) - 1)))))), (wa, .inl (cI, 1100, .inl (upd (fm_sh wd cn (k2 + 1)) (nI ((k2 + 1))).toNatClampNeg (((fm_sh wd cn (k2 + 1)) ((k2 + 1) - 1))))))] := hD
    rw [nI_clamp (show (k2 + 1) < 2 ^ 31 by omega)] at hP hD
    have hP : va_P (dC, dI) classes [(h, .inr (4, [.int (th), .ref fa, .int (n0), .ref ga, .int (ld), .int (sz), .ref ra, .int (rz), .ref ka, .ref wa, .int (nI (cn))])), (ka, .inl (cI, 1100, .inl (upd (fm_sh kd cn (k2 + 1)) ((k2 + 1)) (((fm_sh kd cn (k2 + 1)) ((k2 + 1) - 1)))))), (wa, .inl (cI, 1100, .inl (upd (fm_sh wd cn (k2 + 1)) ((k2 + 1)) (((fm_sh wd cn (k2 + 1)) ((k2 + 1) - 1))))))] _ := hP
    have hD : va_D A [(h, .inr (4, [.int (th), .ref fa, .int (n0), .ref ga, .int (ld), .int (sz), .ref ra, .int (rz), .ref ka, .ref wa, .int (nI (cn))])), (ka, .inl (cI, 1100, .inl (upd (fm_sh kd cn (k2 + 1)) ((k2 + 1)) (((fm_sh kd cn (k2 + 1)) ((k2 + 1) - 1)))))), (wa, .inl (cI, 1100, .inl (upd (fm_sh wd cn (k2 + 1)) ((k2 + 1)) (((fm_sh wd cn (k2 + 1)) ((k2 + 1) - 1))))))] := hD
    refine lv_iinc (v := nI (k2)) (lv' := [(4, .int (nI (k2))), (0, .ref h), (1, .int (nI (i))), (2, .int (v)), (3, .int (u))]) hx hb d_MO_insert_44 hl (k := 4) rfl (by rw [fm_m1]; exact nI_pred k2) (by decide) rfl (fun ls hl => ?_)
    refine lv_goto (tgt := 6) hx hb d_MO_insert_47 (by decide) ?_
    exact ih_6 k2 H locs ls (by omega) (by omega) (by rw [fm_sh_s kd (by omega), fm_sh_s wd (by omega)] at hP; exact hP) (by rw [fm_sh_s kd (by omega), fm_sh_s wd (by omega)] at hD; exact hD) hS (lv_sub hl [1, 2, 3, 4, 0] rfl)
theorem d_MO_remove_0 : decode b_MO_remove 0 = .ok (.aload_n 0, 1) := by decide +kernel
theorem d_MO_remove_1 : decode b_MO_remove 1 = .ok (.dup, 1) := by decide +kernel
theorem d_MO_remove_2 : decode b_MO_remove 2 = .ok (.getfield 110, 3) := by decide +kernel
theorem d_MO_remove_5 : decode b_MO_remove 5 = .ok (.iconst 1, 1) := by decide +kernel
theorem d_MO_remove_6 : decode b_MO_remove 6 = .ok (.isub, 1) := by decide +kernel
theorem d_MO_remove_7 : decode b_MO_remove 7 = .ok (.putfield 110, 3) := by decide +kernel
theorem d_MO_remove_10 : decode b_MO_remove 10 = .ok (.iload_n 1, 1) := by decide +kernel
theorem d_MO_remove_11 : decode b_MO_remove 11 = .ok (.istore_n 2, 1) := by decide +kernel
theorem d_MO_remove_12 : decode b_MO_remove 12 = .ok (.iload_n 2, 1) := by decide +kernel
theorem d_MO_remove_13 : decode b_MO_remove 13 = .ok (.aload_n 0, 1) := by decide +kernel
theorem d_MO_remove_14 : decode b_MO_remove 14 = .ok (.getfield 110, 3) := by decide +kernel
theorem d_MO_remove_17 : decode b_MO_remove 17 = .ok (.if_icmp .ge 37, 3) := by decide +kernel
theorem d_MO_remove_20 : decode b_MO_remove 20 = .ok (.aload_n 0, 1) := by decide +kernel
theorem d_MO_remove_21 : decode b_MO_remove 21 = .ok (.getfield 19, 3) := by decide +kernel
theorem d_MO_remove_24 : decode b_MO_remove 24 = .ok (.iload_n 2, 1) := by decide +kernel
theorem d_MO_remove_25 : decode b_MO_remove 25 = .ok (.aload_n 0, 1) := by decide +kernel
theorem d_MO_remove_26 : decode b_MO_remove 26 = .ok (.getfield 19, 3) := by decide +kernel
theorem d_MO_remove_29 : decode b_MO_remove 29 = .ok (.iload_n 2, 1) := by decide +kernel
theorem d_MO_remove_30 : decode b_MO_remove 30 = .ok (.iconst 1, 1) := by decide +kernel
theorem d_MO_remove_31 : decode b_MO_remove 31 = .ok (.iadd, 1) := by decide +kernel
theorem d_MO_remove_32 : decode b_MO_remove 32 = .ok (.iaload, 1) := by decide +kernel
theorem d_MO_remove_33 : decode b_MO_remove 33 = .ok (.iastore, 1) := by decide +kernel
theorem d_MO_remove_34 : decode b_MO_remove 34 = .ok (.aload_n 0, 1) := by decide +kernel
theorem d_MO_remove_35 : decode b_MO_remove 35 = .ok (.getfield 23, 3) := by decide +kernel
theorem d_MO_remove_38 : decode b_MO_remove 38 = .ok (.iload_n 2, 1) := by decide +kernel
theorem d_MO_remove_39 : decode b_MO_remove 39 = .ok (.aload_n 0, 1) := by decide +kernel
theorem d_MO_remove_40 : decode b_MO_remove 40 = .ok (.getfield 23, 3) := by decide +kernel
theorem d_MO_remove_43 : decode b_MO_remove 43 = .ok (.iload_n 2, 1) := by decide +kernel
theorem d_MO_remove_44 : decode b_MO_remove 44 = .ok (.iconst 1, 1) := by decide +kernel
theorem d_MO_remove_45 : decode b_MO_remove 45 = .ok (.iadd, 1) := by decide +kernel
theorem d_MO_remove_46 : decode b_MO_remove 46 = .ok (.iaload, 1) := by decide +kernel
theorem d_MO_remove_47 : decode b_MO_remove 47 = .ok (.iastore, 1) := by decide +kernel
theorem d_MO_remove_48 : decode b_MO_remove 48 = .ok (.iinc 2 1, 3) := by decide +kernel
theorem d_MO_remove_51 : decode b_MO_remove 51 = .ok (.goto (-39), 3) := by decide +kernel
theorem d_MO_remove_54 : decode b_MO_remove 54 = .ok (.return_, 1) := by decide +kernel
set_option maxHeartbeats 4000000 in
set_option maxRecDepth 100000 in
theorem c_MO_remove (l : Launch) (dC : Nat → ClassId) (dI : Nat → Nat → Nat) (h : Nat) (th : Int32) (fa : Nat) (n0 : Int32) (ga : Nat) (ld : Int32) (sz : Int32) (ra : Nat) (rz : Int32) (ka : Nat) (wa : Nat) (cn : Nat) (cI : ClassId) (kd : Nat → Int32) (wd : Nat → Int32) (i : Nat) (hcn : cn ≤ 1100) (hi : i < cn) : fm_MW l (dC, dI) y_MO_remove w_MO_remove ({ frames := 0, cells := 0, slots := 0, locals := 0 }) [.ref h, .int (nI (i))] [(h, .inr (4, [.int (th), .ref fa, .int (n0), .ref ga, .int (ld), .int (sz), .ref ra, .int (rz), .ref ka, .ref wa, .int (nI (cn))])), (ka, .inl (cI, 1100, .inl (kd))), (wa, .inl (cI, 1100, .inl (wd)))] [(h, .inr (4, [.int (th), .ref fa, .int (n0), .ref ga, .int (ld), .int (sz), .ref ra, .int (rz), .ref ka, .ref wa, .int (nI (cn - 1))])), (ka, .inl (cI, 1100, .inl (fm_rm kd i (cn - 1)))), (wa, .inl (cI, 1100, .inl (fm_rm wd i (cn - 1))))] [(cI, .int)] none := by
  refine Met.ofW (cc := b_MO_remove) (maxL := 3) (ret := none) (by decide) rfl ?_
  intro pg ev s m args below meth cd s₁ BD hml hv
  obtain ⟨rfl, hP, hK, hD0⟩ := hv
  have hx := BD.exec
  have hb := BD.bytes
  have hr := BD.returns
  have hts := atoms_spec (ws := w_MO_remove) BD.pre
  have ht : ∀ w ∈ fm_T, w.before _ s = true := fun w h => hts w (List.mem_cons_of_mem _ h)
  have hown : s.vm.findClass R_MO = some m.cls := findClass_of_methodNamed BD.named
  have hlocks := BD.notSynchronized
  have S : CallFix pg m cd b_MO_remove 3 s _ w_MO_remove R_MO := ⟨hx, hb, hml, hown, hts⟩
  have hD := fm_selfD hD0
  generalize fm_A [(h, .inr (4, [.int (th), .ref fa, .int (n0), .ref ga, .int (ld), .int (sz), .ref ra, .int (rz), .ref ka, .ref wa, .int (nI (cn))])), (ka, .inl (cI, 1100, .inl (kd))), (wa, .inl (cI, 1100, .inl (wd)))] = A at hD ⊢
  have hS : va_S A s.heap s.heap [] := va_S.rf
  have hl := lv_entry ([.ref h, .int (nI (i))]) (n := 3) (Nat.le_of_ble_eq_true rfl)
  rw [lg_entry_eq]
  generalize (lg_sl ([.ref h, .int (nI (i))]) ++ List.replicate (3 - (lg_sl ([.ref h, .int (nI (i))])).length) Slot.unset).toArray = ls at hl ⊢
  have hl : lv_has ls 3 [(0, .ref h), (1, .int (nI (i)))] := hl
  refine lv_aload_n hx hb d_MO_remove_0 rfl (lv_at hl 0 rfl) ?_
  refine lv_dup hx hb d_MO_remove_1 rfl ?_
  refine va_get (D := (dC, dI)) (ci := 4) (v := .int (nI (cn))) (C := R_MO) (T := F_MO) (N := 11) hx hb ht i_MO hown hK hP 0 rfl rfl 10 (by decide) (ht _ q_3_123) (fun _ h9 => h9) rfl d_MO_remove_2 ?_
  refine lv_iconst (v := nI (1)) hx hb d_MO_remove_5 (by decide) ?_
  refine lv_isub hx hb d_MO_remove_6 ?_
  refine fm_tw (z := nI (cn - 1)) (pk_sub (by omega)) ?_
  refine va_put (D := (dC, dI)) (ci := 4) (v := .int (nI (cn - 1))) (ty := .int) (C := R_MO) (T := F_MO) (N := 11) hx hb ht i_MO t_MO t_MO_ok n_MO hown hK hP hD hS 0 rfl rfl 10 (by decide) (ht _ q_3_123) (fun _ h9 => h9) rfl (by decide +kernel) (rfl) (rfl) (Nat.le_of_ble_eq_true rfl) d_MO_remove_7 (fun H locs hP hD hS => ?_)
  have hP : va_P (dC, dI) classes [(h, .inr (4, [.int (th), .ref fa, .int (n0), .ref ga, .int (ld), .int (sz), .ref ra, .int (rz), .ref ka, .ref wa, .int (nI (cn - 1))])), (ka, .inl (cI, 1100, .inl (kd))), (wa, .inl (cI, 1100, .inl (wd)))] _ := hP
  have hD : va_D A [(h, .inr (4, [.int (th), .ref fa, .int (n0), .ref ga, .int (ld), .int (sz), .ref ra, .int (rz), .ref ka, .ref wa, .int (nI (cn - 1))])), (ka, .inl (cI, 1100, .inl (kd))), (wa, .inl (cI, 1100, .inl (wd)))] := hD
  refine lv_iload_n hx hb d_MO_remove_10 rfl (lv_at hl 1 rfl) ?_
  refine lv_istore_n (lv' := [(2, .int (nI (i))), (0, .ref h), (1, .int (nI (i)))]) hx hb d_MO_remove_11 rfl hl (by decide) rfl (fun ls hl => ?_)
  refine fm_wloop1 (nL := 3) (LV := fun (k : Nat) => [(0, .ref h), (2, .int (nI (k)))]) (WS := fun (k : Nat) => [(h, .inr (4, [.int (th), .ref fa, .int (n0), .ref ga, .int (ld), .int (sz), .ref ra, .int (rz), .ref ka, .ref wa, .int (nI (cn - 1))])), (ka, .inl (cI, 1100, .inl (fm_rm kd i k))), (wa, .inl (cI, 1100, .inl (fm_rm wd i k)))]) (I := fun (k : Nat) => i ≤ k ∧ k ≤ cn - 1) (μ := fun (k : Nat) => cn - 1 - k) ?_ i (⟨Nat.le_refl _, by omega⟩) (by rw [fm_rm_0, fm_rm_0]; exact hP) (by rw [fm_rm_0, fm_rm_0]; exact hD) hS ls (lv_sub hl [1, 0] rfl)
  intro k hI_12 ih_12 H locs ls hP hD hS hl
  have hl : lv_has ls 3 [(0, .ref h), (2, .int (nI (k)))] := hl
  have hP : va_P (dC, dI) classes [(h, .inr (4, [.int (th), .ref fa, .int (n0), .ref ga, .int (ld), .int (sz), .ref ra, .int (rz), .ref ka, .ref wa, .int (nI (cn - 1))])), (ka, .inl (cI, 1100, .inl (fm_rm kd i k))), (wa, .inl (cI, 1100, .inl (fm_rm wd i k)))] _ := hP
  have hD : va_D A [(h, .inr (4, [.int (th), .ref fa, .int (n0), .ref ga, .int (ld), .int (sz), .ref ra, .int (rz), .ref ka, .ref wa, .int (nI (cn - 1))])), (ka, .inl (cI, 1100, .inl (fm_rm kd i k))), (wa, .inl (cI, 1100, .inl (fm_rm wd i k)))] := hD
  refine lv_iload_n hx hb d_MO_remove_12 rfl (lv_at hl 1 rfl) ?_
  refine lv_aload_n hx hb d_MO_remove_13 rfl (lv_at hl 0 rfl) ?_
  refine va_get (D := (dC, dI)) (ci := 4) (v := .int (nI (cn - 1))) (C := R_MO) (T := F_MO) (N := 11) hx hb ht i_MO hown hK hP 0 rfl rfl 10 (by decide) (ht _ q_3_123) (fun _ h9 => h9) rfl d_MO_remove_14 ?_
  refine lv_icmp_ge (tgt := 54) hx hb d_MO_remove_17 (by decide) (fun c0 => ?_) (fun c0 => ?_)
  · have c_17 : cn - 1 ≤ k := (nI_leI (a := cn - 1) (b := k) (by omega) (by omega)).mp c0
    obtain rfl : k = cn - 1 := by omega
    exact W.vret hx hb hr (fun t ht hW => ⟨rfl, by rw [ht]; exact hP, hS.F ht⟩) hS.2.2 d_MO_remove_54
  · have c_17 : ¬ (cn - 1 ≤ k) := fun z => c0 ((nI_leI (a := cn - 1) (b := k) (by omega) (by omega)).mpr z)
    refine lv_aload_n hx hb d_MO_remove_20 rfl (lv_at hl 0 rfl) ?_
    refine va_get (D := (dC, dI)) (ci := 4) (v := .ref ka) (C := R_MO) (T := F_MO) (N := 11) hx hb ht i_MO hown hK hP 0 rfl rfl 8 (by decide) (ht _ q_3_121) (fun _ h9 => h9) rfl d_MO_remove_21 ?_
    refine lv_iload_n hx hb d_MO_remove_24 rfl (lv_at hl 1 rfl) ?_
    refine lv_aload_n hx hb d_MO_remove_25 rfl (lv_at hl 0 rfl) ?_
    refine va_get (D := (dC, dI)) (ci := 4) (v := .ref ka) (C := R_MO) (T := F_MO) (N := 11) hx hb ht i_MO hown hK hP 0 rfl rfl 8 (by decide) (ht _ q_3_121) (fun _ h9 => h9) rfl d_MO_remove_26 ?_
    refine lv_iload_n hx hb d_MO_remove_29 rfl (lv_at hl 1 rfl) ?_
    refine lv_iconst (v := nI (1)) hx hb d_MO_remove_30 (by decide) ?_
    refine lv_iadd hx hb d_MO_remove_31 ?_
    refine fm_tw (z := nI (k + 1)) (nI_add _ _) ?_
    refine va_iald hx hb hK hP 1 0 rfl rfl (vp_in_nI (by omega) (by omega)) d_MO_remove_32 ?_
    refine fm_tw (z := (fm_rm kd i k) (k + 1)) (by rw [nI_clamp (by omega)]) ?_
    refine va_iast hx hb hK hP hD hS 1 0 rfl rfl (vp_in_nI (by omega) (by omega)) d_MO_remove_33 (fun H locs hP hD hS => ?_)
    have hP : va_P (dC, dI) classes [(h, .inr (4, [.int (th), .ref fa, .int (n0), .ref ga, .int (ld), .int (sz), .ref ra, .int (rz), .ref ka, .ref wa, .int (nI (cn - 1))])), (ka, .inl (cI, 1100, .inl (upd (fm_rm kd i k) (nI (k)).toNatClampNeg (((fm_rm kd i k) (k + 1)))))), (wa, .inl (cI, 1100, .inl (fm_rm wd i k)))] _ := hP
    have hD : va_D A [(h, .inr (4, [.int (th), .ref fa, .int (n0), .ref ga, .int (ld), .int (sz), .ref ra, .int (rz), .ref ka, .ref wa, .int (nI (cn - 1))])), (ka, .inl (cI, 1100, .inl (upd (fm_rm kd i k) (nI (k)).toNatClampNeg (((fm_rm kd i k) (k + 1)))))), (wa, .inl (cI, 1100, .inl (fm_rm wd i k)))] := hD
    rw [nI_clamp (show k < 2 ^ 31 by omega)] at hP hD
    have hP : va_P (dC, dI) classes [(h, .inr (4, [.int (th), .ref fa, .int (n0), .ref ga, .int (ld), .int (sz), .ref ra, .int (rz), .ref ka, .ref wa, .int (nI (cn - 1))])), (ka, .inl (cI, 1100, .inl (upd (fm_rm kd i k) (k) (((fm_rm kd i k) (k + 1)))))), (wa, .inl (cI, 1100, .inl (fm_rm wd i k)))] _ := hP
    have hD : va_D A [(h, .inr (4, [.int (th), .ref fa, .int (n0), .ref ga, .int (ld), .int (sz), .ref ra, .int (rz), .ref ka, .ref wa, .int (nI (cn - 1))])), (ka, .inl (cI, 1100, .inl (upd (fm_rm kd i k) (k) (((fm_rm kd i k) (k + 1)))))), (wa, .inl (cI, 1100, .inl (fm_rm wd i k)))] := hD
    refine lv_aload_n hx hb d_MO_remove_34 rfl (lv_at hl 0 rfl) ?_
    refine va_get (D := (dC, dI)) (ci := 4) (v := .ref wa) (C := R_MO) (T := F_MO) (N := 11) hx hb ht i_MO hown hK hP 0 rfl rfl 9 (by decide) (ht _ q_3_122) (fun _ h9 => h9) rfl d_MO_remove_35 ?_
    refine lv_iload_n hx hb d_MO_remove_38 rfl (lv_at hl 1 rfl) ?_
    refine lv_aload_n hx hb d_MO_remove_39 rfl (lv_at hl 0 rfl) ?_
    refine va_get (D := (dC, dI)) (ci := 4) (v := .ref wa) (C := R_MO) (T := F_MO) (N := 11) hx hb ht i_MO hown hK hP 0 rfl rfl 9 (by decide) (ht _ q_3_122) (fun _ h9 => h9) rfl d_MO_remove_40 ?_
    refine lv_iload_n hx hb d_MO_remove_43 rfl (lv_at hl 1 rfl) ?_
    refine lv_iconst (v := nI (1)) hx hb d_MO_remove_44 (by decide) ?_
    refine lv_iadd hx hb d_MO_remove_45 ?_
    refine fm_tw (z := nI (k + 1)) (nI_add _ _) ?_
    refine va_iald hx hb hK hP 2 0 rfl rfl (vp_in_nI (by omega) (by omega)) d_MO_remove_46 ?_
    refine fm_tw (z := (fm_rm wd i k) (k + 1)) (by rw [nI_clamp (by omega)]) ?_
    refine va_iast hx hb hK hP hD hS 2 0 rfl rfl (vp_in_nI (by omega) (by omega)) d_MO_remove_47 (fun H locs hP hD hS => ?_)
    have hP : va_P (dC, dI) classes [(h, .inr (4, [.int (th), .ref fa, .int (n0), .ref ga, .int (ld), .int (sz), .ref ra, .int (rz), .ref ka, .ref wa, .int (nI (cn - 1))])), (ka, .inl (cI, 1100, .inl (upd (fm_rm kd i k) (k) (((fm_rm kd i k) (k + 1)))))), (wa, .inl (cI, 1100, .inl (upd (fm_rm wd i k) (nI (k)).toNatClampNeg (((fm_rm wd i k) (k + 1))))))] _ := hP
    have hD : va_D A [(h, .inr (4, [.int (th), .ref fa, .int (n0), .ref ga, .int (ld), .int (sz), .ref ra, .int (rz), .ref ka, .ref wa, .int (nI (cn - 1))])), (ka, .inl (cI, 1100, .inl (upd (fm_rm kd i k) (k) (((fm_rm kd i k) (k + 1)))))), (wa, .inl (cI, 1100, .inl (upd (fm_rm wd i k) (nI (k)).toNatClampNeg (((fm_rm wd i k) (k + 1))))))] := hD
    rw [nI_clamp (show k < 2 ^ 31 by omega)] at hP hD
    have hP : va_P (dC, dI) classes [(h, .inr (4, [.int (th), .ref fa, .int (n0), .ref ga, .int (ld), .int (sz), .ref ra, .int (rz), .ref ka, .ref wa, .int (nI (cn - 1))])), (ka, .inl (cI, 1100, .inl (upd (fm_rm kd i k) (k) (((fm_rm kd i k) (k + 1)))))), (wa, .inl (cI, 1100, .inl (upd (fm_rm wd i k) (k) (((fm_rm wd i k) (k + 1))))))] _ := hP
    have hD : va_D A [(h, .inr (4, [.int (th), .ref fa, .int (n0), .ref ga, .int (ld), .int (sz), .ref ra, .int (rz), .ref ka, .ref wa, .int (nI (cn - 1))])), (ka, .inl (cI, 1100, .inl (upd (fm_rm kd i k) (k) (((fm_rm kd i k) (k + 1)))))), (wa, .inl (cI, 1100, .inl (upd (fm_rm wd i k) (k) (((fm_rm wd i k) (k + 1))))))] := hD
    refine lv_iinc (v := nI (k + 1)) (lv' := [(2, .int (nI (k + 1))), (0, .ref h)]) hx hb d_MO_remove_48 hl (k := 1) rfl (nI_1 _) (by decide) rfl (fun ls hl => ?_)
    refine lv_goto (tgt := 12) hx hb d_MO_remove_51 (by decide) ?_
    exact ih_12 (k + 1) H locs ls (by omega) (by omega) (by rw [fm_rm_s kd (by omega), fm_rm_s wd (by omega)] at hP; exact hP) (by rw [fm_rm_s kd (by omega), fm_rm_s wd (by omega)] at hD; exact hD) hS (lv_sub hl [1, 0] rfl)
theorem d_MO_load_0 : decode b_MO_load 0 = .ok (.aload_n 0, 1) := by decide +kernel
theorem d_MO_load_1 : decode b_MO_load 1 = .ok (.iload_n 1, 1) := by decide +kernel
theorem d_MO_load_2 : decode b_MO_load 2 = .ok (.ifCond .lt 9, 3) := by decide +kernel
theorem d_MO_load_5 : decode b_MO_load 5 = .ok (.iload_n 1, 1) := by decide +kernel
theorem d_MO_load_6 : decode b_MO_load 6 = .ok (.ldc 98, 2) := by decide +kernel
theorem d_MO_load_8 : decode b_MO_load 8 = .ok (.if_icmp .le 7, 3) := by decide +kernel
theorem d_MO_load_11 : decode b_MO_load 11 = .ok (.iconst 1, 1) := by decide +kernel
theorem d_MO_load_12 : decode b_MO_load 12 = .ok (.goto 4, 3) := by decide +kernel
theorem d_MO_load_15 : decode b_MO_load 15 = .ok (.iconst 0, 1) := by decide +kernel
theorem d_MO_load_16 : decode b_MO_load 16 = .ok (.putfield 26, 3) := by decide +kernel
theorem d_MO_load_19 : decode b_MO_load 19 = .ok (.aload_n 0, 1) := by decide +kernel
theorem d_MO_load_20 : decode b_MO_load 20 = .ok (.getfield 26, 3) := by decide +kernel
theorem d_MO_load_23 : decode b_MO_load 23 = .ok (.ifCond .le 5, 3) := by decide +kernel
theorem d_MO_load_26 : decode b_MO_load 26 = .ok (.iconst 0, 1) := by decide +kernel
theorem d_MO_load_27 : decode b_MO_load 27 = .ok (.ireturn, 1) := by decide +kernel
theorem d_MO_load_28 : decode b_MO_load 28 = .ok (.aload_n 0, 1) := by decide +kernel
theorem d_MO_load_29 : decode b_MO_load 29 = .ok (.invokevirtual 99, 3) := by decide +kernel
theorem d_MO_load_32 : decode b_MO_load 32 = .ok (.istore_n 2, 1) := by decide +kernel
theorem d_MO_load_33 : decode b_MO_load 33 = .ok (.iload_n 2, 1) := by decide +kernel
theorem d_MO_load_34 : decode b_MO_load 34 = .ok (.ifCond .le 5, 3) := by decide +kernel
theorem d_MO_load_37 : decode b_MO_load 37 = .ok (.iload_n 2, 1) := by decide +kernel
theorem d_MO_load_38 : decode b_MO_load 38 = .ok (.ireturn, 1) := by decide +kernel
theorem d_MO_load_39 : decode b_MO_load 39 = .ok (.iconst 0, 1) := by decide +kernel
theorem d_MO_load_40 : decode b_MO_load 40 = .ok (.istore_n 3, 1) := by decide +kernel
theorem d_MO_load_41 : decode b_MO_load 41 = .ok (.iload_n 3, 1) := by decide +kernel
theorem d_MO_load_42 : decode b_MO_load 42 = .ok (.aload_n 0, 1) := by decide +kernel
theorem d_MO_load_43 : decode b_MO_load 43 = .ok (.getfield 30, 3) := by decide +kernel
theorem d_MO_load_46 : decode b_MO_load 46 = .ok (.if_icmp .ge 21, 3) := by decide +kernel
theorem d_MO_load_49 : decode b_MO_load 49 = .ok (.aload_n 0, 1) := by decide +kernel
theorem d_MO_load_50 : decode b_MO_load 50 = .ok (.getfield 13, 3) := by decide +kernel
theorem d_MO_load_53 : decode b_MO_load 53 = .ok (.iload_n 3, 1) := by decide +kernel
theorem d_MO_load_54 : decode b_MO_load 54 = .ok (.aload_n 0, 1) := by decide +kernel
theorem d_MO_load_55 : decode b_MO_load 55 = .ok (.getfield 7, 3) := by decide +kernel
theorem d_MO_load_58 : decode b_MO_load 58 = .ok (.iload_n 3, 1) := by decide +kernel
theorem d_MO_load_59 : decode b_MO_load 59 = .ok (.baload, 1) := by decide +kernel
theorem d_MO_load_60 : decode b_MO_load 60 = .ok (.bastore, 1) := by decide +kernel
theorem d_MO_load_61 : decode b_MO_load 61 = .ok (.iinc 3 1, 3) := by decide +kernel
theorem d_MO_load_64 : decode b_MO_load 64 = .ok (.goto (-23), 3) := by decide +kernel
theorem d_MO_load_67 : decode b_MO_load 67 = .ok (.aload_n 0, 1) := by decide +kernel
theorem d_MO_load_68 : decode b_MO_load 68 = .ok (.iconst 1, 1) := by decide +kernel
theorem d_MO_load_69 : decode b_MO_load 69 = .ok (.putfield 103, 3) := by decide +kernel
theorem d_MO_load_72 : decode b_MO_load 72 = .ok (.aload_n 0, 1) := by decide +kernel
theorem d_MO_load_73 : decode b_MO_load 73 = .ok (.iload_n 1, 1) := by decide +kernel
theorem d_MO_load_74 : decode b_MO_load 74 = .ok (.ifCond .le 7, 3) := by decide +kernel
theorem d_MO_load_77 : decode b_MO_load 77 = .ok (.iload_n 1, 1) := by decide +kernel
theorem d_MO_load_78 : decode b_MO_load 78 = .ok (.goto 12, 3) := by decide +kernel
theorem d_MO_load_81 : decode b_MO_load 81 = .ok (.aload_n 0, 1) := by decide +kernel
theorem d_MO_load_82 : decode b_MO_load 82 = .ok (.getfield 13, 3) := by decide +kernel
theorem d_MO_load_85 : decode b_MO_load 85 = .ok (.invokestatic 78, 3) := by decide +kernel
theorem d_MO_load_88 : decode b_MO_load 88 = .ok (.iconst 4, 1) := by decide +kernel
theorem d_MO_load_89 : decode b_MO_load 89 = .ok (.ishr, 1) := by decide +kernel
theorem d_MO_load_90 : decode b_MO_load 90 = .ok (.putfield 107, 3) := by decide +kernel
theorem d_MO_load_93 : decode b_MO_load 93 = .ok (.aload_n 0, 1) := by decide +kernel
theorem d_MO_load_94 : decode b_MO_load 94 = .ok (.iconst 0, 1) := by decide +kernel
theorem d_MO_load_95 : decode b_MO_load 95 = .ok (.putfield 110, 3) := by decide +kernel
theorem d_MO_load_98 : decode b_MO_load 98 = .ok (.iconst 0, 1) := by decide +kernel
theorem d_MO_load_99 : decode b_MO_load 99 = .ok (.ireturn, 1) := by decide +kernel
set_option maxHeartbeats 4000000 in
set_option maxRecDepth 100000 in
theorem c_MO_loadX (l : Launch) (dC : Nat → ClassId) (dI : Nat → Nat → Nat) (h : Nat) (th : Int32) (fa : Nat) (n0 : Int32) (ga : Nat) (ld : Int32) (sz : Int32) (ra : Nat) (rz : Int32) (ka : Nat) (wa : Nat) (ct : Int32) (x : Int32) (hno : x < 0 ∨ nI 134217727 < x) : fm_MW l (dC, dI) y_MO_load w_MO_load ({ frames := 0, cells := 0, slots := 0, locals := 0 }) [.ref h, .int (x)] [(h, .inr (4, [.int (th), .ref fa, .int (n0), .ref ga, .int (ld), .int (sz), .ref ra, .int (rz), .ref ka, .ref wa, .int (ct)]))] [(h, .inr (4, [.int (nI (1)), .ref fa, .int (n0), .ref ga, .int (ld), .int (sz), .ref ra, .int (rz), .ref ka, .ref wa, .int (ct)]))] [] (some (.int (nI (0)))) := by
  refine Met.ofW (cc := b_MO_load) (maxL := 4) (ret := (some .int)) (by decide) rfl ?_
  intro pg ev s m args below meth cd s₁ BD hml hv
  obtain ⟨rfl, hP, hK, hD0⟩ := hv
  have hx := BD.exec
  have hb := BD.bytes
  have hr := BD.returns
  have hts := atoms_spec (ws := w_MO_load) BD.pre
  have ht : ∀ w ∈ fm_T, w.before _ s = true := fun w h => hts w (List.mem_cons_of_mem _ h)
  have hown : s.vm.findClass R_MO = some m.cls := findClass_of_methodNamed BD.named
  have hlocks := BD.notSynchronized
  have S : CallFix pg m cd b_MO_load 4 s _ w_MO_load R_MO := ⟨hx, hb, hml, hown, hts⟩
  have hD := fm_selfD hD0
  generalize fm_A [(h, .inr (4, [.int (th), .ref fa, .int (n0), .ref ga, .int (ld), .int (sz), .ref ra, .int (rz), .ref ka, .ref wa, .int (ct)]))] = A at hD ⊢
  have hS : va_S A s.heap s.heap [] := va_S.rf
  have hl := lv_entry ([.ref h, .int (x)]) (n := 4) (Nat.le_of_ble_eq_true rfl)
  rw [lg_entry_eq]
  generalize (lg_sl ([.ref h, .int (x)]) ++ List.replicate (4 - (lg_sl ([.ref h, .int (x)])).length) Slot.unset).toArray = ls at hl ⊢
  have hl : lv_has ls 4 [(0, .ref h), (1, .int (x))] := hl
  refine lv_aload_n hx hb d_MO_load_0 rfl (lv_at hl 0 rfl) ?_
  refine lv_iload_n hx hb d_MO_load_1 rfl (lv_at hl 1 rfl) ?_
  refine lv_if_lt (tgt := 11) hx hb d_MO_load_2 (by decide) (fun c0 => ?_) (fun c0 => ?_)
  · have c_2 := c0
    refine lv_iconst (v := nI (1)) hx hb d_MO_load_11 (by decide) ?_
    refine lv_goto (tgt := 16) hx hb d_MO_load_12 (by decide) ?_
    refine va_put (D := (dC, dI)) (ci := 4) (v := .int (nI (1))) (ty := .int) (C := R_MO) (T := F_MO) (N := 11) hx hb ht i_MO t_MO t_MO_ok n_MO hown hK hP hD hS 0 rfl rfl 0 (by decide) (ht _ q_3_113) (fun _ h9 => h9) rfl (by decide +kernel) (rfl) (rfl) (Nat.le_of_ble_eq_true rfl) d_MO_load_16 (fun H locs hP hD hS => ?_)
    have hP : va_P (dC, dI) classes [(h, .inr (4, [.int (nI (1)), .ref fa, .int (n0), .ref ga, .int (ld), .int (sz), .ref ra, .int (rz), .ref ka, .ref wa, .int (ct)]))] _ := hP
    have hD : va_D A [(h, .inr (4, [.int (nI (1)), .ref fa, .int (n0), .ref ga, .int (ld), .int (sz), .ref ra, .int (rz), .ref ka, .ref wa, .int (ct)]))] := hD
    refine lv_aload_n hx hb d_MO_load_19 rfl (lv_at hl 0 rfl) ?_
    refine va_get (D := (dC, dI)) (ci := 4) (v := .int (nI (1))) (C := R_MO) (T := F_MO) (N := 11) hx hb ht i_MO hown hK hP 0 rfl rfl 0 (by decide) (ht _ q_3_113) (fun _ h9 => h9) rfl d_MO_load_20 ?_
    refine lv_if_le (tgt := 28) hx hb d_MO_load_23 (by decide) (fun c0 => ?_) (fun c0 => ?_)
    · have c_23 : 1 ≤ 0 := (nI_leI (a := 1) (b := 0) (by omega) (by omega)).mp c0
      exact absurd c_23 (by decide)
    · have c_23 : ¬ (1 ≤ 0) := fun z => c0 ((nI_leI (a := 1) (b := 0) (by omega) (by omega)).mpr z)
      refine lv_iconst (v := nI (0)) hx hb d_MO_load_26 (by decide) ?_
      exact W.iret hx hb hr (fun t ht hW => ⟨congrArg (fun z => Outcome.returned (some (Value.int z))) (rfl), by rw [ht]; exact hP, hS.F ht⟩) hS.2.2 d_MO_load_27
  · have c_2 := c0
    refine lv_iload_n hx hb d_MO_load_5 rfl (lv_at hl 1 rfl) ?_
    refine lv_ldc (own := R_MO) (v := nI (134217727)) hx hb hown (ht _ q_3_163) d_MO_load_6 ?_
    refine lv_icmp_le (tgt := 15) hx hb d_MO_load_8 (by decide) (fun c0 => ?_) (fun c0 => ?_)
    · have c_8 := c0
      exact absurd c_8 (Int32.not_le.mpr (hno.resolve_left c_2))
    · have c_8 := c0
      refine lv_iconst (v := nI (1)) hx hb d_MO_load_11 (by decide) ?_
      refine lv_goto (tgt := 16) hx hb d_MO_load_12 (by decide) ?_
      refine va_put (D := (dC, dI)) (ci := 4) (v := .int (nI (1))) (ty := .int) (C := R_MO) (T := F_MO) (N := 11) hx hb ht i_MO t_MO t_MO_ok n_MO hown hK hP hD hS 0 rfl rfl 0 (by decide) (ht _ q_3_113) (fun _ h9 => h9) rfl (by decide +kernel) (rfl) (rfl) (Nat.le_of_ble_eq_true rfl) d_MO_load_16 (fun H locs hP hD hS => ?_)
      have hP : va_P (dC, dI) classes [(h, .inr (4, [.int (nI (1)), .ref fa, .int (n0), .ref ga, .int (ld), .int (sz), .ref ra, .int (rz), .ref ka, .ref wa, .int (ct)]))] _ := hP
      have hD : va_D A [(h, .inr (4, [.int (nI (1)), .ref fa, .int (n0), .ref ga, .int (ld), .int (sz), .ref ra, .int (rz), .ref ka, .ref wa, .int (ct)]))] := hD
      refine lv_aload_n hx hb d_MO_load_19 rfl (lv_at hl 0 rfl) ?_
      refine va_get (D := (dC, dI)) (ci := 4) (v := .int (nI (1))) (C := R_MO) (T := F_MO) (N := 11) hx hb ht i_MO hown hK hP 0 rfl rfl 0 (by decide) (ht _ q_3_113) (fun _ h9 => h9) rfl d_MO_load_20 ?_
      refine lv_if_le (tgt := 28) hx hb d_MO_load_23 (by decide) (fun c0 => ?_) (fun c0 => ?_)
      · have c_23 : 1 ≤ 0 := (nI_leI (a := 1) (b := 0) (by omega) (by omega)).mp c0
        exact absurd c_23 (by decide)
      · have c_23 : ¬ (1 ≤ 0) := fun z => c0 ((nI_leI (a := 1) (b := 0) (by omega) (by omega)).mpr z)
        refine lv_iconst (v := nI (0)) hx hb d_MO_load_26 (by decide) ?_
        exact W.iret hx hb hr (fun t ht hW => ⟨congrArg (fun z => Outcome.returned (some (Value.int z))) (rfl), by rw [ht]; exact hP, hS.F ht⟩) hS.2.2 d_MO_load_27
set_option maxHeartbeats 4000000 in
set_option maxRecDepth 100000 in
theorem c_MO_loadF (l : Launch) (dC : Nat → ClassId) (dI : Nat → Nat → Nat) (h : Nat) (th : Int32) (fa : Nat) (ga : Nat) (ld : Int32) (sz : Int32) (ra : Nat) (rz : Int32) (ka : Nat) (wa : Nat) (ct : Int32) (n : Nat) (cB : ClassId) (f : Nat → Int32) (g : Nat → Int32) (a : Nat) (hn : n ≤ 8192) (ha : a ≤ 134217727) (hft : fm_fault (fm_RB f) n ≠ 0) (hf31 : fm_fault (fm_RB f) n < 12) : fm_MW l (dC, dI) y_MO_load w_MO_load ({ frames := 8, cells := 0, slots := 0, locals := 180 }) [.ref h, .int (nI (a))] [(h, .inr (4, [.int (th), .ref fa, .int (nI (n)), .ref ga, .int (ld), .int (sz), .ref ra, .int (rz), .ref ka, .ref wa, .int (ct)])), (fa, .inl (cB, 8192, .inl (f))), (ga, .inl (cB, 8192, .inl (g)))] [(h, .inr (4, [.int (nI (0)), .ref fa, .int (nI (n)), .ref ga, .int (ld), .int (sz), .ref ra, .int (rz), .ref ka, .ref wa, .int (ct)])), (fa, .inl (cB, 8192, .inl (f))), (ga, .inl (cB, 8192, .inl (g)))] [(cB, .byte)] (some (.int (nI (fm_fault (fm_RB f) n)))) := by
  refine Met.ofW (cc := b_MO_load) (maxL := 4) (ret := (some .int)) (by decide) rfl ?_
  intro pg ev s m args below meth cd s₁ BD hml hv
  obtain ⟨rfl, hP, hK, hD0⟩ := hv
  have hx := BD.exec
  have hb := BD.bytes
  have hr := BD.returns
  have hts := atoms_spec (ws := w_MO_load) BD.pre
  have ht : ∀ w ∈ fm_T, w.before _ s = true := fun w h => hts w (List.mem_cons_of_mem _ h)
  have hown : s.vm.findClass R_MO = some m.cls := findClass_of_methodNamed BD.named
  have hlocks := BD.notSynchronized
  have S : CallFix pg m cd b_MO_load 4 s _ w_MO_load R_MO := ⟨hx, hb, hml, hown, hts⟩
  have hD := fm_selfD hD0
  generalize fm_A [(h, .inr (4, [.int (th), .ref fa, .int (nI (n)), .ref ga, .int (ld), .int (sz), .ref ra, .int (rz), .ref ka, .ref wa, .int (ct)])), (fa, .inl (cB, 8192, .inl (f))), (ga, .inl (cB, 8192, .inl (g)))] = A at hD ⊢
  have hS : va_S A s.heap s.heap [] := va_S.rf
  have hl := lv_entry ([.ref h, .int (nI (a))]) (n := 4) (Nat.le_of_ble_eq_true rfl)
  rw [lg_entry_eq]
  generalize (lg_sl ([.ref h, .int (nI (a))]) ++ List.replicate (4 - (lg_sl ([.ref h, .int (nI (a))])).length) Slot.unset).toArray = ls at hl ⊢
  have hl : lv_has ls 4 [(0, .ref h), (1, .int (nI (a)))] := hl
  refine lv_aload_n hx hb d_MO_load_0 rfl (lv_at hl 0 rfl) ?_
  refine lv_iload_n hx hb d_MO_load_1 rfl (lv_at hl 1 rfl) ?_
  refine lv_if_lt (tgt := 11) hx hb d_MO_load_2 (by decide) (fun c0 => ?_) (fun c0 => ?_)
  · have c_2 : a < 0 := (nI_ltI (a := a) (b := 0) (by omega) (by omega)).mp c0
    exact absurd c_2 (by omega)
  · have c_2 : ¬ (a < 0) := fun z => c0 ((nI_ltI (a := a) (b := 0) (by omega) (by omega)).mpr z)
    refine lv_iload_n hx hb d_MO_load_5 rfl (lv_at hl 1 rfl) ?_
    refine lv_ldc (own := R_MO) (v := nI (134217727)) hx hb hown (ht _ q_3_163) d_MO_load_6 ?_
    refine lv_icmp_le (tgt := 15) hx hb d_MO_load_8 (by decide) (fun c0 => ?_) (fun c0 => ?_)
    · have c_8 : a ≤ 134217727 := (nI_leI (a := a) (b := 134217727) (by omega) (by omega)).mp c0
      refine lv_iconst (v := nI (0)) hx hb d_MO_load_15 (by decide) ?_
      refine va_put (D := (dC, dI)) (ci := 4) (v := .int (nI (0))) (ty := .int) (C := R_MO) (T := F_MO) (N := 11) hx hb ht i_MO t_MO t_MO_ok n_MO hown hK hP hD hS 0 rfl rfl 0 (by decide) (ht _ q_3_113) (fun _ h9 => h9) rfl (by decide +kernel) (rfl) (rfl) (Nat.le_of_ble_eq_true rfl) d_MO_load_16 (fun H locs hP hD hS => ?_)
      have hP : va_P (dC, dI) classes [(h, .inr (4, [.int (nI (0)), .ref fa, .int (nI (n)), .ref ga, .int (ld), .int (sz), .ref ra, .int (rz), .ref ka, .ref wa, .int (ct)])), (fa, .inl (cB, 8192, .inl (f))), (ga, .inl (cB, 8192, .inl (g)))] _ := hP
      have hD : va_D A [(h, .inr (4, [.int (nI (0)), .ref fa, .int (nI (n)), .ref ga, .int (ld), .int (sz), .ref ra, .int (rz), .ref ka, .ref wa, .int (ct)])), (fa, .inl (cB, 8192, .inl (f))), (ga, .inl (cB, 8192, .inl (g)))] := hD
      refine lv_aload_n hx hb d_MO_load_19 rfl (lv_at hl 0 rfl) ?_
      refine va_get (D := (dC, dI)) (ci := 4) (v := .int (nI (0))) (C := R_MO) (T := F_MO) (N := 11) hx hb ht i_MO hown hK hP 0 rfl rfl 0 (by decide) (ht _ q_3_113) (fun _ h9 => h9) rfl d_MO_load_20 ?_
      refine lv_if_le (tgt := 28) hx hb d_MO_load_23 (by decide) (fun c0 => ?_) (fun c0 => ?_)
      · have c_23 : 0 ≤ 0 := (nI_leI (a := 0) (b := 0) (by omega) (by omega)).mp c0
        refine lv_aload_n hx hb d_MO_load_28 rfl (lv_at hl 0 rfl) ?_
        refine fm_cv S (c_MO_fault l dC dI h (nI (0)) fa n ga ld sz ra rz ka wa ct cB f (by omega)) rfl rfl k_MO_fault q_3_164 ⟨Nat.le_of_ble_eq_true rfl, Nat.le_of_ble_eq_true rfl⟩ (hP.sub [0, 1] rfl) (hK.sub [0] rfl) 0 rfl rfl rfl hl.1 rfl (Nat.le_of_ble_eq_true rfl) ⟨Nat.zero_le _, Nat.zero_le _⟩ d_MO_load_29 ?_
        refine lv_istore_n (lv' := [(2, .int (nI (fm_fault (fm_RB f) n))), (0, .ref h), (1, .int (nI (a)))]) hx hb d_MO_load_32 rfl hl (by decide) rfl (fun ls hl => ?_)
        refine lv_iload_n hx hb d_MO_load_33 rfl (lv_at hl 0 rfl) ?_
        refine lv_if_le (tgt := 39) hx hb d_MO_load_34 (by decide) (fun c0 => ?_) (fun c0 => ?_)
        · have c_34 : fm_fault (fm_RB f) n ≤ 0 := (nI_leI (a := fm_fault (fm_RB f) n) (b := 0) (by omega) (by omega)).mp c0
          exact absurd hft (by omega)
        · have c_34 : ¬ (fm_fault (fm_RB f) n ≤ 0) := fun z => c0 ((nI_leI (a := fm_fault (fm_RB f) n) (b := 0) (by omega) (by omega)).mpr z)
          refine lv_iload_n hx hb d_MO_load_37 rfl (lv_at hl 0 rfl) ?_
          exact W.iret hx hb hr (fun t ht hW => ⟨congrArg (fun z => Outcome.returned (some (Value.int z))) (rfl), by rw [ht]; exact hP, hS.F ht⟩) hS.2.2 d_MO_load_38
      · have c_23 : ¬ (0 ≤ 0) := fun z => c0 ((nI_leI (a := 0) (b := 0) (by omega) (by omega)).mpr z)
        exact absurd c_23 (by decide)
    · have c_8 : ¬ (a ≤ 134217727) := fun z => c0 ((nI_leI (a := a) (b := 134217727) (by omega) (by omega)).mpr z)
      exact absurd ha c_8
set_option maxHeartbeats 4000000 in
set_option maxRecDepth 100000 in
theorem c_MO_loadO (l : Launch) (dC : Nat → ClassId) (dI : Nat → Nat → Nat) (h : Nat) (th : Int32) (fa : Nat) (ga : Nat) (ld : Int32) (sz : Int32) (ra : Nat) (rz : Int32) (ka : Nat) (wa : Nat) (ct : Int32) (n : Nat) (cB : ClassId) (f : Nat → Int32) (g : Nat → Int32) (a : Nat) (hn : n ≤ 8192) (ha : a ≤ 134217727) (hft : fm_fault (fm_RB f) n = 0) (hL : fm_Len (fm_RB (fm_cp f g n))) (hby : fm_Byt f) : fm_MW l (dC, dI) y_MO_load w_MO_load ({ frames := 8, cells := 0, slots := 0, locals := 180 }) [.ref h, .int (nI (a))] [(h, .inr (4, [.int (th), .ref fa, .int (nI (n)), .ref ga, .int (ld), .int (sz), .ref ra, .int (rz), .ref ka, .ref wa, .int (ct)])), (fa, .inl (cB, 8192, .inl (f))), (ga, .inl (cB, 8192, .inl (g)))] [(h, .inr (4, [.int (nI (0)), .ref fa, .int (nI (n)), .ref ga, .int (nI (1)), .int (if 0 < a then nI a else nI (fm_WO (fm_RB (fm_cp f g n)) 7) >>> (nI 4 &&& 31)), .ref ra, .int (rz), .ref ka, .ref wa, .int (nI (0))])), (fa, .inl (cB, 8192, .inl (f))), (ga, .inl (cB, 8192, .inl (fm_cp f g n)))] [(cB, .byte)] (some (.int (nI (0)))) := by
  refine Met.ofW (cc := b_MO_load) (maxL := 4) (ret := (some .int)) (by decide) rfl ?_
  intro pg ev s m args below meth cd s₁ BD hml hv
  obtain ⟨rfl, hP, hK, hD0⟩ := hv
  have hx := BD.exec
  have hb := BD.bytes
  have hr := BD.returns
  have hts := atoms_spec (ws := w_MO_load) BD.pre
  have ht : ∀ w ∈ fm_T, w.before _ s = true := fun w h => hts w (List.mem_cons_of_mem _ h)
  have hown : s.vm.findClass R_MO = some m.cls := findClass_of_methodNamed BD.named
  have hlocks := BD.notSynchronized
  have S : CallFix pg m cd b_MO_load 4 s _ w_MO_load R_MO := ⟨hx, hb, hml, hown, hts⟩
  have hD := fm_selfD hD0
  generalize fm_A [(h, .inr (4, [.int (th), .ref fa, .int (nI (n)), .ref ga, .int (ld), .int (sz), .ref ra, .int (rz), .ref ka, .ref wa, .int (ct)])), (fa, .inl (cB, 8192, .inl (f))), (ga, .inl (cB, 8192, .inl (g)))] = A at hD ⊢
  have hS : va_S A s.heap s.heap [] := va_S.rf
  have hl := lv_entry ([.ref h, .int (nI (a))]) (n := 4) (Nat.le_of_ble_eq_true rfl)
  rw [lg_entry_eq]
  generalize (lg_sl ([.ref h, .int (nI (a))]) ++ List.replicate (4 - (lg_sl ([.ref h, .int (nI (a))])).length) Slot.unset).toArray = ls at hl ⊢
  have hl : lv_has ls 4 [(0, .ref h), (1, .int (nI (a)))] := hl
  refine lv_aload_n hx hb d_MO_load_0 rfl (lv_at hl 0 rfl) ?_
  refine lv_iload_n hx hb d_MO_load_1 rfl (lv_at hl 1 rfl) ?_
  refine lv_if_lt (tgt := 11) hx hb d_MO_load_2 (by decide) (fun c0 => ?_) (fun c0 => ?_)
  · have c_2 : a < 0 := (nI_ltI (a := a) (b := 0) (by omega) (by omega)).mp c0
    exact absurd c_2 (by omega)
  · have c_2 : ¬ (a < 0) := fun z => c0 ((nI_ltI (a := a) (b := 0) (by omega) (by omega)).mpr z)
    refine lv_iload_n hx hb d_MO_load_5 rfl (lv_at hl 1 rfl) ?_
    refine lv_ldc (own := R_MO) (v := nI (134217727)) hx hb hown (ht _ q_3_163) d_MO_load_6 ?_
    refine lv_icmp_le (tgt := 15) hx hb d_MO_load_8 (by decide) (fun c0 => ?_) (fun c0 => ?_)
    · have c_8 : a ≤ 134217727 := (nI_leI (a := a) (b := 134217727) (by omega) (by omega)).mp c0
      refine lv_iconst (v := nI (0)) hx hb d_MO_load_15 (by decide) ?_
      refine va_put (D := (dC, dI)) (ci := 4) (v := .int (nI (0))) (ty := .int) (C := R_MO) (T := F_MO) (N := 11) hx hb ht i_MO t_MO t_MO_ok n_MO hown hK hP hD hS 0 rfl rfl 0 (by decide) (ht _ q_3_113) (fun _ h9 => h9) rfl (by decide +kernel) (rfl) (rfl) (Nat.le_of_ble_eq_true rfl) d_MO_load_16 (fun H locs hP hD hS => ?_)
      have hP : va_P (dC, dI) classes [(h, .inr (4, [.int (nI (0)), .ref fa, .int (nI (n)), .ref ga, .int (ld), .int (sz), .ref ra, .int (rz), .ref ka, .ref wa, .int (ct)])), (fa, .inl (cB, 8192, .inl (f))), (ga, .inl (cB, 8192, .inl (g)))] _ := hP
      have hD : va_D A [(h, .inr (4, [.int (nI (0)), .ref fa, .int (nI (n)), .ref ga, .int (ld), .int (sz), .ref ra, .int (rz), .ref ka, .ref wa, .int (ct)])), (fa, .inl (cB, 8192, .inl (f))), (ga, .inl (cB, 8192, .inl (g)))] := hD
      refine lv_aload_n hx hb d_MO_load_19 rfl (lv_at hl 0 rfl) ?_
      refine va_get (D := (dC, dI)) (ci := 4) (v := .int (nI (0))) (C := R_MO) (T := F_MO) (N := 11) hx hb ht i_MO hown hK hP 0 rfl rfl 0 (by decide) (ht _ q_3_113) (fun _ h9 => h9) rfl d_MO_load_20 ?_
      refine lv_if_le (tgt := 28) hx hb d_MO_load_23 (by decide) (fun c0 => ?_) (fun c0 => ?_)
      · have c_23 : 0 ≤ 0 := (nI_leI (a := 0) (b := 0) (by omega) (by omega)).mp c0
        refine lv_aload_n hx hb d_MO_load_28 rfl (lv_at hl 0 rfl) ?_
        refine fm_cv S (c_MO_fault l dC dI h (nI (0)) fa n ga ld sz ra rz ka wa ct cB f (by omega)) rfl rfl k_MO_fault q_3_164 ⟨Nat.le_of_ble_eq_true rfl, Nat.le_of_ble_eq_true rfl⟩ (hP.sub [0, 1] rfl) (hK.sub [0] rfl) 0 rfl rfl rfl hl.1 rfl (Nat.le_of_ble_eq_true rfl) ⟨Nat.zero_le _, Nat.zero_le _⟩ d_MO_load_29 ?_
        refine lv_istore_n (lv' := [(2, .int (nI (fm_fault (fm_RB f) n))), (0, .ref h), (1, .int (nI (a)))]) hx hb d_MO_load_32 rfl hl (by decide) rfl (fun ls hl => ?_)
        refine lv_iload_n hx hb d_MO_load_33 rfl (lv_at hl 0 rfl) ?_
        refine lv_if_le (tgt := 39) hx hb d_MO_load_34 (by decide) (fun c0 => ?_) (fun c0 => ?_)
        · have c_34 : fm_fault (fm_RB f) n ≤ 0 := (nI_leI (a := fm_fault (fm_RB f) n) (b := 0) (by omega) (by omega)).mp c0
          refine lv_iconst (v := nI (0)) hx hb d_MO_load_39 (by decide) ?_
          refine lv_istore_n (lv' := [(3, .int (nI (0))), (2, .int (nI (fm_fault (fm_RB f) n))), (0, .ref h), (1, .int (nI (a)))]) hx hb d_MO_load_40 rfl hl (by decide) rfl (fun ls hl => ?_)
          refine fm_wloop1 (nL := 4) (LV := fun (k : Nat) => [(0, .ref h), (1, .int (nI (a))), (3, .int (nI (k)))]) (WS := fun (k : Nat) => [(h, .inr (4, [.int (nI (0)), .ref fa, .int (nI (n)), .ref ga, .int (ld), .int (sz), .ref ra, .int (rz), .ref ka, .ref wa, .int (ct)])), (fa, .inl (cB, 8192, .inl (f))), (ga, .inl (cB, 8192, .inl (fm_cp f g k)))]) (I := fun (k : Nat) => k ≤ n) (μ := fun (k : Nat) => n - k) ?_ 0 (Nat.zero_le _) (by rw [fm_cp_0]; exact hP) (by rw [fm_cp_0]; exact hD) hS ls (lv_sub hl [2, 3, 0] rfl)
          intro k hI_41 ih_41 H locs ls hP hD hS hl
          have hl : lv_has ls 4 [(0, .ref h), (1, .int (nI (a))), (3, .int (nI (k)))] := hl
          have hP : va_P (dC, dI) classes [(h, .inr (4, [.int (nI (0)), .ref fa, .int (nI (n)), .ref ga, .int (ld), .int (sz), .ref ra, .int (rz), .ref ka, .ref wa, .int (ct)])), (fa, .inl (cB, 8192, .inl (f))), (ga, .inl (cB, 8192, .inl (fm_cp f g k)))] _ := hP
          have hD : va_D A [(h, .inr (4, [.int (nI (0)), .ref fa, .int (nI (n)), .ref ga, .int (ld), .int (sz), .ref ra, .int (rz), .ref ka, .ref wa, .int (ct)])), (fa, .inl (cB, 8192, .inl (f))), (ga, .inl (cB, 8192, .inl (fm_cp f g k)))] := hD
          refine lv_iload_n hx hb d_MO_load_41 rfl (lv_at hl 2 rfl) ?_
          refine lv_aload_n hx hb d_MO_load_42 rfl (lv_at hl 0 rfl) ?_
          refine va_get (D := (dC, dI)) (ci := 4) (v := .int (nI (n))) (C := R_MO) (T := F_MO) (N := 11) hx hb ht i_MO hown hK hP 0 rfl rfl 2 (by decide) (ht _ q_3_115) (fun _ h9 => h9) rfl d_MO_load_43 ?_
          refine lv_icmp_ge (tgt := 67) hx hb d_MO_load_46 (by decide) (fun c0 => ?_) (fun c0 => ?_)
          · have c_46 : n ≤ k := (nI_leI (a := n) (b := k) (by omega) (by omega)).mp c0
            have hkn : k = n := by omega
            rw [hkn] at hP hD
            have hl := lv_sub hl [0, 1] rfl
            refine lv_aload_n hx hb d_MO_load_67 rfl (lv_at hl 0 rfl) ?_
            refine lv_iconst (v := nI (1)) hx hb d_MO_load_68 (by decide) ?_
            refine va_put (D := (dC, dI)) (ci := 4) (v := .int (nI (1))) (ty := .boolean) (C := R_MO) (T := F_MO) (N := 11) hx hb ht i_MO t_MO t_MO_ok n_MO hown hK hP hD hS 0 rfl rfl 4 (by decide) (ht _ q_3_117) (fun _ h9 => h9) rfl (by decide +kernel) (rfl) (rfl) (Nat.le_of_ble_eq_true rfl) d_MO_load_69 (fun H locs hP hD hS => ?_)
            have hP : va_P (dC, dI) classes [(h, .inr (4, [.int (nI (0)), .ref fa, .int (nI (n)), .ref ga, .int (nI (1)), .int (sz), .ref ra, .int (rz), .ref ka, .ref wa, .int (ct)])), (fa, .inl (cB, 8192, .inl (f))), (ga, .inl (cB, 8192, .inl (fm_cp f g n)))] _ := hP
            have hD : va_D A [(h, .inr (4, [.int (nI (0)), .ref fa, .int (nI (n)), .ref ga, .int (nI (1)), .int (sz), .ref ra, .int (rz), .ref ka, .ref wa, .int (ct)])), (fa, .inl (cB, 8192, .inl (f))), (ga, .inl (cB, 8192, .inl (fm_cp f g n)))] := hD
            refine lv_aload_n hx hb d_MO_load_72 rfl (lv_at hl 0 rfl) ?_
            refine lv_iload_n hx hb d_MO_load_73 rfl (lv_at hl 1 rfl) ?_
            refine lv_if_le (tgt := 81) hx hb d_MO_load_74 (by decide) (fun c0 => ?_) (fun c0 => ?_)
            · have c_74 : a ≤ 0 := (nI_leI (a := a) (b := 0) (by omega) (by omega)).mp c0
              refine lv_aload_n hx hb d_MO_load_81 rfl (lv_at hl 0 rfl) ?_
              refine va_get (D := (dC, dI)) (ci := 4) (v := .ref ga) (C := R_MO) (T := F_MO) (N := 11) hx hb ht i_MO hown hK hP 0 rfl rfl 3 (by decide) (ht _ q_3_116) (fun _ h9 => h9) rfl d_MO_load_82 ?_
              refine fm_cs S (c_MO_designOf l dC dI ga cB (fm_cp f g n) (hL)) rfl rfl k_MO_designOf q_3_181 ⟨Nat.le_of_ble_eq_true rfl, Nat.le_of_ble_eq_true rfl⟩ (hP.sub [2] rfl) (hK.sub [0] rfl) rfl hl.1 rfl (Nat.le_of_ble_eq_true rfl) ⟨Nat.zero_le _, Nat.zero_le _⟩ d_MO_load_85 ?_
              refine lv_iconst (v := nI (4)) hx hb d_MO_load_88 (by decide) ?_
              refine lv_ishr hx hb d_MO_load_89 ?_
              refine fm_tw (z := (if 0 < a then nI a else nI (fm_WO (fm_RB (fm_cp f g n)) 7) >>> (nI 4 &&& 31))) (by first | (rw [if_pos (by omega)]; done) | (rw [if_neg (by omega)]; done)) ?_
              refine va_put (D := (dC, dI)) (ci := 4) (v := .int (if 0 < a then nI a else nI (fm_WO (fm_RB (fm_cp f g n)) 7) >>> (nI 4 &&& 31))) (ty := .int) (C := R_MO) (T := F_MO) (N := 11) hx hb ht i_MO t_MO t_MO_ok n_MO hown hK hP hD hS 0 rfl rfl 5 (by decide) (ht _ q_3_118) (fun _ h9 => h9) rfl (by decide +kernel) (rfl) (rfl) (Nat.le_of_ble_eq_true rfl) d_MO_load_90 (fun H locs hP hD hS => ?_)
              have hP : va_P (dC, dI) classes [(h, .inr (4, [.int (nI (0)), .ref fa, .int (nI (n)), .ref ga, .int (nI (1)), .int (if 0 < a then nI a else nI (fm_WO (fm_RB (fm_cp f g n)) 7) >>> (nI 4 &&& 31)), .ref ra, .int (rz), .ref ka, .ref wa, .int (ct)])), (fa, .inl (cB, 8192, .inl (f))), (ga, .inl (cB, 8192, .inl (fm_cp f g n)))] _ := hP
              have hD : va_D A [(h, .inr (4, [.int (nI (0)), .ref fa, .int (nI (n)), .ref ga, .int (nI (1)), .int (if 0 < a then nI a else nI (fm_WO (fm_RB (fm_cp f g n)) 7) >>> (nI 4 &&& 31)), .ref ra, .int (rz), .ref ka, .ref wa, .int (ct)])), (fa, .inl (cB, 8192, .inl (f))), (ga, .inl (cB, 8192, .inl (fm_cp f g n)))] := hD
              refine lv_aload_n hx hb d_MO_load_93 rfl (lv_at hl 0 rfl) ?_
              refine lv_iconst (v := nI (0)) hx hb d_MO_load_94 (by decide) ?_
              refine va_put (D := (dC, dI)) (ci := 4) (v := .int (nI (0))) (ty := .int) (C := R_MO) (T := F_MO) (N := 11) hx hb ht i_MO t_MO t_MO_ok n_MO hown hK hP hD hS 0 rfl rfl 10 (by decide) (ht _ q_3_123) (fun _ h9 => h9) rfl (by decide +kernel) (rfl) (rfl) (Nat.le_of_ble_eq_true rfl) d_MO_load_95 (fun H locs hP hD hS => ?_)
              have hP : va_P (dC, dI) classes [(h, .inr (4, [.int (nI (0)), .ref fa, .int (nI (n)), .ref ga, .int (nI (1)), .int (if 0 < a then nI a else nI (fm_WO (fm_RB (fm_cp f g n)) 7) >>> (nI 4 &&& 31)), .ref ra, .int (rz), .ref ka, .ref wa, .int (nI (0))])), (fa, .inl (cB, 8192, .inl (f))), (ga, .inl (cB, 8192, .inl (fm_cp f g n)))] _ := hP
              have hD : va_D A [(h, .inr (4, [.int (nI (0)), .ref fa, .int (nI (n)), .ref ga, .int (nI (1)), .int (if 0 < a then nI a else nI (fm_WO (fm_RB (fm_cp f g n)) 7) >>> (nI 4 &&& 31)), .ref ra, .int (rz), .ref ka, .ref wa, .int (nI (0))])), (fa, .inl (cB, 8192, .inl (f))), (ga, .inl (cB, 8192, .inl (fm_cp f g n)))] := hD
              refine lv_iconst (v := nI (0)) hx hb d_MO_load_98 (by decide) ?_
              exact W.iret hx hb hr (fun t ht hW => ⟨congrArg (fun z => Outcome.returned (some (Value.int z))) (rfl), by rw [ht]; exact hP, hS.F ht⟩) hS.2.2 d_MO_load_99
            · have c_74 : ¬ (a ≤ 0) := fun z => c0 ((nI_leI (a := a) (b := 0) (by omega) (by omega)).mpr z)
              refine lv_iload_n hx hb d_MO_load_77 rfl (lv_at hl 1 rfl) ?_
              refine lv_goto (tgt := 90) hx hb d_MO_load_78 (by decide) ?_
              refine fm_tw (z := (if 0 < a then nI a else nI (fm_WO (fm_RB (fm_cp f g n)) 7) >>> (nI 4 &&& 31))) (by first | (rw [if_pos (by omega)]; done) | (rw [if_neg (by omega)]; done)) ?_
              refine va_put (D := (dC, dI)) (ci := 4) (v := .int (if 0 < a then nI a else nI (fm_WO (fm_RB (fm_cp f g n)) 7) >>> (nI 4 &&& 31))) (ty := .int) (C := R_MO) (T := F_MO) (N := 11) hx hb ht i_MO t_MO t_MO_ok n_MO hown hK hP hD hS 0 rfl rfl 5 (by decide) (ht _ q_3_118) (fun _ h9 => h9) rfl (by decide +kernel) (rfl) (rfl) (Nat.le_of_ble_eq_true rfl) d_MO_load_90 (fun H locs hP hD hS => ?_)
              have hP : va_P (dC, dI) classes [(h, .inr (4, [.int (nI (0)), .ref fa, .int (nI (n)), .ref ga, .int (nI (1)), .int (if 0 < a then nI a else nI (fm_WO (fm_RB (fm_cp f g n)) 7) >>> (nI 4 &&& 31)), .ref ra, .int (rz), .ref ka, .ref wa, .int (ct)])), (fa, .inl (cB, 8192, .inl (f))), (ga, .inl (cB, 8192, .inl (fm_cp f g n)))] _ := hP
              have hD : va_D A [(h, .inr (4, [.int (nI (0)), .ref fa, .int (nI (n)), .ref ga, .int (nI (1)), .int (if 0 < a then nI a else nI (fm_WO (fm_RB (fm_cp f g n)) 7) >>> (nI 4 &&& 31)), .ref ra, .int (rz), .ref ka, .ref wa, .int (ct)])), (fa, .inl (cB, 8192, .inl (f))), (ga, .inl (cB, 8192, .inl (fm_cp f g n)))] := hD
              refine lv_aload_n hx hb d_MO_load_93 rfl (lv_at hl 0 rfl) ?_
              refine lv_iconst (v := nI (0)) hx hb d_MO_load_94 (by decide) ?_
              refine va_put (D := (dC, dI)) (ci := 4) (v := .int (nI (0))) (ty := .int) (C := R_MO) (T := F_MO) (N := 11) hx hb ht i_MO t_MO t_MO_ok n_MO hown hK hP hD hS 0 rfl rfl 10 (by decide) (ht _ q_3_123) (fun _ h9 => h9) rfl (by decide +kernel) (rfl) (rfl) (Nat.le_of_ble_eq_true rfl) d_MO_load_95 (fun H locs hP hD hS => ?_)
              have hP : va_P (dC, dI) classes [(h, .inr (4, [.int (nI (0)), .ref fa, .int (nI (n)), .ref ga, .int (nI (1)), .int (if 0 < a then nI a else nI (fm_WO (fm_RB (fm_cp f g n)) 7) >>> (nI 4 &&& 31)), .ref ra, .int (rz), .ref ka, .ref wa, .int (nI (0))])), (fa, .inl (cB, 8192, .inl (f))), (ga, .inl (cB, 8192, .inl (fm_cp f g n)))] _ := hP
              have hD : va_D A [(h, .inr (4, [.int (nI (0)), .ref fa, .int (nI (n)), .ref ga, .int (nI (1)), .int (if 0 < a then nI a else nI (fm_WO (fm_RB (fm_cp f g n)) 7) >>> (nI 4 &&& 31)), .ref ra, .int (rz), .ref ka, .ref wa, .int (nI (0))])), (fa, .inl (cB, 8192, .inl (f))), (ga, .inl (cB, 8192, .inl (fm_cp f g n)))] := hD
              refine lv_iconst (v := nI (0)) hx hb d_MO_load_98 (by decide) ?_
              exact W.iret hx hb hr (fun t ht hW => ⟨congrArg (fun z => Outcome.returned (some (Value.int z))) (rfl), by rw [ht]; exact hP, hS.F ht⟩) hS.2.2 d_MO_load_99
          · have c_46 : ¬ (n ≤ k) := fun z => c0 ((nI_leI (a := n) (b := k) (by omega) (by omega)).mpr z)
            refine lv_aload_n hx hb d_MO_load_49 rfl (lv_at hl 0 rfl) ?_
            refine va_get (D := (dC, dI)) (ci := 4) (v := .ref ga) (C := R_MO) (T := F_MO) (N := 11) hx hb ht i_MO hown hK hP 0 rfl rfl 3 (by decide) (ht _ q_3_116) (fun _ h9 => h9) rfl d_MO_load_50 ?_
            refine lv_iload_n hx hb d_MO_load_53 rfl (lv_at hl 2 rfl) ?_
            refine lv_aload_n hx hb d_MO_load_54 rfl (lv_at hl 0 rfl) ?_
            refine va_get (D := (dC, dI)) (ci := 4) (v := .ref fa) (C := R_MO) (T := F_MO) (N := 11) hx hb ht i_MO hown hK hP 0 rfl rfl 1 (by decide) (ht _ q_3_114) (fun _ h9 => h9) rfl d_MO_load_55 ?_
            refine lv_iload_n hx hb d_MO_load_58 rfl (lv_at hl 2 rfl) ?_
            refine va_bald hx hb hK hP 1 0 rfl rfl (vp_in_nI (by omega) (by omega)) d_MO_load_59 ?_
            refine fm_tw (z := f (k)) (by rw [nI_clamp (by omega)]) ?_
            refine va_bast hx hb hK hP hD hS 2 0 rfl rfl (vp_in_nI (by omega) (by omega)) d_MO_load_60 (fun H locs hP hD hS => ?_)
            have hP : va_P (dC, dI) classes [(h, .inr (4, [.int (nI (0)), .ref fa, .int (nI (n)), .ref ga, .int (ld), .int (sz), .ref ra, .int (rz), .ref ka, .ref wa, .int (ct)])), (fa, .inl (cB, 8192, .inl (f))), (ga, .inl (cB, 8192, .inl (upd (fm_cp f g k) (nI (k)).toNatClampNeg (vp_nar .byte ((f (k)))))))] _ := hP
            have hD : va_D A [(h, .inr (4, [.int (nI (0)), .ref fa, .int (nI (n)), .ref ga, .int (ld), .int (sz), .ref ra, .int (rz), .ref ka, .ref wa, .int (ct)])), (fa, .inl (cB, 8192, .inl (f))), (ga, .inl (cB, 8192, .inl (upd (fm_cp f g k) (nI (k)).toNatClampNeg (vp_nar .byte ((f (k)))))))] := hD
            rw [nI_clamp (show k < 2 ^ 31 by omega), hby k] at hP hD
            have hP : va_P (dC, dI) classes [(h, .inr (4, [.int (nI (0)), .ref fa, .int (nI (n)), .ref ga, .int (ld), .int (sz), .ref ra, .int (rz), .ref ka, .ref wa, .int (ct)])), (fa, .inl (cB, 8192, .inl (f))), (ga, .inl (cB, 8192, .inl (upd (fm_cp f g k) (k) ((f (k))))))] _ := hP
            have hD : va_D A [(h, .inr (4, [.int (nI (0)), .ref fa, .int (nI (n)), .ref ga, .int (ld), .int (sz), .ref ra, .int (rz), .ref ka, .ref wa, .int (ct)])), (fa, .inl (cB, 8192, .inl (f))), (ga, .inl (cB, 8192, .inl (upd (fm_cp f g k) (k) ((f (k))))))] := hD
            refine lv_iinc (v := nI (k + 1)) (lv' := [(3, .int (nI (k + 1))), (0, .ref h), (1, .int (nI (a)))]) hx hb d_MO_load_61 hl (k := 2) rfl (nI_1 _) (by decide) rfl (fun ls hl => ?_)
            refine lv_goto (tgt := 41) hx hb d_MO_load_64 (by decide) ?_
            exact ih_41 (k + 1) H locs ls (by omega) (by omega) (by rw [fm_cp_s] at hP; exact hP) (by rw [fm_cp_s] at hD; exact hD) hS (lv_sub hl [1, 2, 0] rfl)
        · have c_34 : ¬ (fm_fault (fm_RB f) n ≤ 0) := fun z => c0 ((nI_leI (a := fm_fault (fm_RB f) n) (b := 0) (by omega) (by omega)).mpr z)
          exact absurd c_34 (by omega)
      · have c_23 : ¬ (0 ≤ 0) := fun z => c0 ((nI_leI (a := 0) (b := 0) (by omega) (by omega)).mpr z)
        exact absurd c_23 (by decide)
    · have c_8 : ¬ (a ≤ 134217727) := fun z => c0 ((nI_leI (a := a) (b := 134217727) (by omega) (by omega)).mpr z)
      exact absurd ha c_8
