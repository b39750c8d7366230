theorem k_BF_init : fm_Iok y_BF_init b_BF_init 1 := ⟨q_1_26, q_1_2, q_1_27, rfl, ⟨by decide +kernel, by decide +kernel, by decide +kernel⟩⟩
theorem k_FO_init : fm_Iok y_FO_init b_FO_init 1 := ⟨q_1_66, q_1_4, q_1_67, rfl, ⟨by decide +kernel, by decide +kernel, by decide +kernel⟩⟩
theorem k_LI_init : fm_Iok y_LI_init b_LI_init 1 := ⟨q_1_42, q_1_3, q_1_43, rfl, ⟨by decide +kernel, by decide +kernel, by decide +kernel⟩⟩
theorem k_FM_init : fm_Iok y_FM_init b_FM_init 1 := ⟨q_1_18, q_1_1, q_1_19, rfl, ⟨by decide +kernel, by decide +kernel, by decide +kernel⟩⟩
theorem k_MO_init : fm_Iok y_MO_init b_MO_init 1 := ⟨q_3_110, q_1_5, q_3_111, rfl, ⟨by decide +kernel, by decide +kernel, by decide +kernel⟩⟩
theorem d_BF_init_0 : decode b_BF_init 0 = .ok (.aload_n 0, 1) := by decide +kernel
theorem d_BF_init_1 : decode b_BF_init 1 = .ok (.invokespecial 3, 3) := by decide +kernel
theorem d_BF_init_4 : decode b_BF_init 4 = .ok (.aload_n 0, 1) := by decide +kernel
theorem d_BF_init_5 : decode b_BF_init 5 = .ok (.sipush 2048, 3) := by decide +kernel
theorem d_BF_init_8 : decode b_BF_init 8 = .ok (.newarray .int, 2) := by decide +kernel
theorem d_BF_init_10 : decode b_BF_init 10 = .ok (.putfield 9, 3) := by decide +kernel
theorem d_BF_init_13 : decode b_BF_init 13 = .ok (.aload_n 0, 1) := by decide +kernel
theorem d_BF_init_14 : decode b_BF_init 14 = .ok (.iconst 0, 1) := by decide +kernel
theorem d_BF_init_15 : decode b_BF_init 15 = .ok (.putfield 13, 3) := by decide +kernel
theorem d_BF_init_18 : decode b_BF_init 18 = .ok (.return_, 1) := by decide +kernel
set_option maxHeartbeats 4000000 in
set_option maxRecDepth 100000 in
theorem c_BF_init (l : Launch) (dC : Nat → ClassId) (dI : Nat → Nat → Nat) (h : Nat) (cI : ClassId) (sz : Nat) : fm_MN (S := Nat) l (dC, dI) y_BF_init w_BF_init ({ frames := 1, cells := 1, slots := 2048, locals := 12 }) h sz 0 [.null, .int (nI (0))] [(cI, .int)] (fun u => [(h, .inr (0, [.ref u, .int (nI (0))])), (u, .inl (cI, 2048, .inl (fun _ => 0)))]) 1 2048 := by
  refine Met.ofW (cc := b_BF_init) (maxL := 1) (ret := none) (by decide) rfl ?_
  intro pg ev s m args below meth cd s₁ BD hml hv
  obtain ⟨rfl, hsz, hP, hK⟩ := hv
  subst hsz
  have hx := BD.exec
  have hb := BD.bytes
  have hr := BD.returns
  have hts := atoms_spec (ws := w_BF_init) BD.pre
  have ht : ∀ w ∈ fm_T, w.before _ s = true := fun w h => hts w (List.mem_cons_of_mem _ h)
  have hown : s.vm.findClass R_BF = some m.cls := findClass_of_methodNamed BD.named
  have hlocks := BD.notSynchronized
  have hin : meth.name = "<init>" := (name_of_methodNamed BD.named BD.method).1
  have S : CallFix pg m cd b_BF_init 1 s _ w_BF_init R_BF := ⟨hx, hb, hml, hown, hts⟩
  have hD : va_D (va_A [(h, .inr (0, [.null, .int (nI (0))]))] s.heap.size) [(h, .inr (0, [.null, .int (nI (0))]))] := fm_one (Or.inl ⟨0, _, rfl⟩)
  generalize hAe : va_A [(h, .inr (0, [.null, .int (nI (0))]))] s.heap.size = A at hD ⊢
  have hA : ∀ q : Nat, s.heap.size ≤ q → A q := fun q h => by rw [← hAe]; exact Or.inr h
  have hS : va_S A s.heap s.heap [] := va_S.rf
  have hl := lv_entry ([.ref h]) (n := 1) (Nat.le_of_ble_eq_true rfl)
  rw [lg_entry_eq]
  generalize (lg_sl ([.ref h]) ++ List.replicate (1 - (lg_sl ([.ref h])).length) Slot.unset).toArray = ls at hl ⊢
  have hl : lv_has ls 1 [(0, .ref h)] := hl
  refine lv_aload_n hx hb d_BF_init_0 rfl (lv_at hl 0 rfl) ?_
  refine W.objInit hx hb hown (ht _ q_1_28) (ht _ q_1_21) (ht _ q_1_22) rfl (by rw [hml]; exact hl.1) rfl d_BF_init_1 (Nat.le_of_ble_eq_true rfl) (Nat.le_of_ble_eq_true rfl) ?_
  refine W.eq (g2 := F0 m 4 ls []) rfl ?_
  refine lv_aload_n hx hb d_BF_init_4 rfl (lv_at hl 0 rfl) ?_
  refine lv_sipush (v := nI (2048)) hx hb d_BF_init_5 (by decide) ?_
  refine va_newa (atype := .int) (ty := .int) (N' := 2048) (a0 := (2048, .inl (fun _ => 0))) hx hb (ht _ q_1_38) rfl hK hP hD hS hA (fun _ => rfl) (by decide) (by decide) (by decide) (Nat.le_of_ble_eq_true rfl) (Nat.le_of_ble_eq_true rfl) d_BF_init_8 (fun ba cA H hK hP hD hS => ?_)
  obtain rfl : cI = cA := Option.some.inj (((show s.vm.findClass _ = some cI from (hK.2 0 _ rfl).2)).symm.trans (show s.vm.findClass _ = some cA from (hK.2 1 _ rfl).2))
  have hK : va_K (dC, dI) classes [(cI, .int)] s := hK.sub [0] rfl
  have hP : va_P (dC, dI) classes [(h, .inr (0, [.null, .int (nI (0))])), (ba, .inl (cI, 2048, .inl (fun _ => 0)))] _ := hP
  have hD : va_D A [(h, .inr (0, [.null, .int (nI (0))])), (ba, .inl (cI, 2048, .inl (fun _ => 0)))] := hD
  refine va_putF (D := (dC, dI)) (ci := 0) (v := .ref ba) (ty := .array .int) (C := R_BF) (T := F_BF) (N := 2) hx hb ht i_BF t_BF t_BF_ok n_BF hown hK hP hD hS 0 rfl rfl 0 (by decide) (ht _ q_1_29) (fun _ h9 => h9) rfl hin rfl (by decide +kernel) rfl rfl (Nat.le_of_ble_eq_true rfl) d_BF_init_10 (fun H locs hP hD hS => ?_)
  have hP : va_P (dC, dI) classes [(h, .inr (0, [.ref ba, .int (nI (0))])), (ba, .inl (cI, 2048, .inl (fun _ => 0)))] _ := hP
  have hD : va_D A [(h, .inr (0, [.ref ba, .int (nI (0))])), (ba, .inl (cI, 2048, .inl (fun _ => 0)))] := hD
  refine lv_aload_n hx hb d_BF_init_13 rfl (lv_at hl 0 rfl) ?_
  refine lv_iconst (v := nI (0)) hx hb d_BF_init_14 (by decide) ?_
  refine va_put (D := (dC, dI)) (ci := 0) (v := .int (nI (0))) (ty := .int) (C := R_BF) (T := F_BF) (N := 2) hx hb ht i_BF t_BF t_BF_ok n_BF hown hK hP hD hS 0 rfl rfl 1 (by decide) (ht _ q_1_31) (fun _ h9 => h9) rfl (by decide +kernel) (rfl) (rfl) (Nat.le_of_ble_eq_true rfl) d_BF_init_15 (fun H locs hP hD hS => ?_)
  have hP : va_P (dC, dI) classes [(h, .inr (0, [.ref ba, .int (nI (0))])), (ba, .inl (cI, 2048, .inl (fun _ => 0)))] _ := hP
  have hD : va_D A [(h, .inr (0, [.ref ba, .int (nI (0))])), (ba, .inl (cI, 2048, .inl (fun _ => 0)))] := hD
  have hP9 := hP.sub (ws' := [(h, .inr (0, [.ref ba, .int (nI (0))])), (ba, .inl (cI, 2048, .inl (fun _ => 0)))]) [0, 1] rfl
  have hD9 := hD.sub (ws' := [(h, .inr (0, [.ref ba, .int (nI (0))])), (ba, .inl (cI, 2048, .inl (fun _ => 0)))]) [0, 1] (by decide) rfl
  exact W.vret hx hb hr (fun t ht hW => ⟨rfl, ⟨ba, by rw [ht]; exact hP9, hD9⟩, hS.F ht⟩) hS.2.2 d_BF_init_18
theorem d_FO_init_0 : decode b_FO_init 0 = .ok (.aload_n 0, 1) := by decide +kernel
theorem d_FO_init_1 : decode b_FO_init 1 = .ok (.invokespecial 3, 3) := by decide +kernel
theorem d_FO_init_4 : decode b_FO_init 4 = .ok (.aload_n 0, 1) := by decide +kernel
theorem d_FO_init_5 : decode b_FO_init 5 = .ok (.sipush 2048, 3) := by decide +kernel
theorem d_FO_init_8 : decode b_FO_init 8 = .ok (.newarray .int, 2) := by decide +kernel
theorem d_FO_init_10 : decode b_FO_init 10 = .ok (.putfield 11, 3) := by decide +kernel
theorem d_FO_init_13 : decode b_FO_init 13 = .ok (.aload_n 0, 1) := by decide +kernel
theorem d_FO_init_14 : decode b_FO_init 14 = .ok (.bipush 10, 2) := by decide +kernel
theorem d_FO_init_16 : decode b_FO_init 16 = .ok (.newarray .int, 2) := by decide +kernel
theorem d_FO_init_18 : decode b_FO_init 18 = .ok (.putfield 17, 3) := by decide +kernel
theorem d_FO_init_21 : decode b_FO_init 21 = .ok (.aload_n 0, 1) := by decide +kernel
theorem d_FO_init_22 : decode b_FO_init 22 = .ok (.bipush 10, 2) := by decide +kernel
theorem d_FO_init_24 : decode b_FO_init 24 = .ok (.newarray .int, 2) := by decide +kernel
theorem d_FO_init_26 : decode b_FO_init 26 = .ok (.putfield 20, 3) := by decide +kernel
theorem d_FO_init_29 : decode b_FO_init 29 = .ok (.return_, 1) := by decide +kernel
set_option maxHeartbeats 4000000 in
set_option maxRecDepth 100000 in
theorem c_FO_init (l : Launch) (dC : Nat → ClassId) (dI : Nat → Nat → Nat) (h : Nat) (cI : ClassId) (sz : Nat) : fm_MN (S := Nat × Nat × Nat) l (dC, dI) y_FO_init w_FO_init ({ frames := 1, cells := 3, slots := 2068, locals := 12 }) h sz 1 [.null, .null, .null, .int (nI (0)), .int (nI (0)), .int (nI (0)), .int (nI (0)), .int (nI (0))] [(cI, .int)] (fun u => [(h, .inr (1, [.ref u.1, .ref u.2.1, .ref u.2.2, .int (nI (0)), .int (nI (0)), .int (nI (0)), .int (nI (0)), .int (nI (0))])), (u.1, .inl (cI, 2048, .inl (fun _ => 0))), (u.2.1, .inl (cI, 10, .inl (fun _ => 0))), (u.2.2, .inl (cI, 10, .inl (fun _ => 0)))]) 3 2068 := by
  refine Met.ofW (cc := b_FO_init) (maxL := 1) (ret := none) (by decide) rfl ?_
  intro pg ev s m args below meth cd s₁ BD hml hv
  obtain ⟨rfl, hsz, hP, hK⟩ := hv
  subst hsz
  have hx := BD.exec
  have hb := BD.bytes
  have hr := BD.returns
  have hts := atoms_spec (ws := w_FO_init) BD.pre
  have ht : ∀ w ∈ fm_T, w.before _ s = true := fun w h => hts w (List.mem_cons_of_mem _ h)
  have hown : s.vm.findClass R_FO = some m.cls := findClass_of_methodNamed BD.named
  have hlocks := BD.notSynchronized
  have hin : meth.name = "<init>" := (name_of_methodNamed BD.named BD.method).1
  have S : CallFix pg m cd b_FO_init 1 s _ w_FO_init R_FO := ⟨hx, hb, hml, hown, hts⟩
  have hD : va_D (va_A [(h, .inr (1, [.null, .null, .null, .int (nI (0)), .int (nI (0)), .int (nI (0)), .int (nI (0)), .int (nI (0))]))] s.heap.size) [(h, .inr (1, [.null, .null, .null, .int (nI (0)), .int (nI (0)), .int (nI (0)), .int (nI (0)), .int (nI (0))]))] := fm_one (Or.inl ⟨0, _, rfl⟩)
  generalize hAe : va_A [(h, .inr (1, [.null, .null, .null, .int (nI (0)), .int (nI (0)), .int (nI (0)), .int (nI (0)), .int (nI (0))]))] s.heap.size = A at hD ⊢
  have hA : ∀ q : Nat, s.heap.size ≤ q → A q := fun q h => by rw [← hAe]; exact Or.inr h
  have hS : va_S A s.heap s.heap [] := va_S.rf
  have hl := lv_entry ([.ref h]) (n := 1) (Nat.le_of_ble_eq_true rfl)
  rw [lg_entry_eq]
  generalize (lg_sl ([.ref h]) ++ List.replicate (1 - (lg_sl ([.ref h])).length) Slot.unset).toArray = ls at hl ⊢
  have hl : lv_has ls 1 [(0, .ref h)] := hl
  refine lv_aload_n hx hb d_FO_init_0 rfl (lv_at hl 0 rfl) ?_
  refine W.objInit hx hb hown (ht _ q_1_68) (ht _ q_1_21) (ht _ q_1_22) rfl (by rw [hml]; exact hl.1) rfl d_FO_init_1 (Nat.le_of_ble_eq_true rfl) (Nat.le_of_ble_eq_true rfl) ?_
  refine W.eq (g2 := F0 m 4 ls []) rfl ?_
  refine lv_aload_n hx hb d_FO_init_4 rfl (lv_at hl 0 rfl) ?_
  refine lv_sipush (v := nI (2048)) hx hb d_FO_init_5 (by decide) ?_
  refine va_newa (atype := .int) (ty := .int) (N' := 2048) (a0 := (2048, .inl (fun _ => 0))) hx hb (ht _ q_1_38) rfl hK hP hD hS hA (fun _ => rfl) (by decide) (by decide) (by decide) (Nat.le_of_ble_eq_true rfl) (Nat.le_of_ble_eq_true rfl) d_FO_init_8 (fun wa cA H hK hP hD hS => ?_)
  obtain rfl : cI = cA := Option.some.inj (((show s.vm.findClass _ = some cI from (hK.2 0 _ rfl).2)).symm.trans (show s.vm.findClass _ = some cA from (hK.2 1 _ rfl).2))
  have hK : va_K (dC, dI) classes [(cI, .int)] s := hK.sub [0] rfl
  have hP : va_P (dC, dI) classes [(h, .inr (1, [.null, .null, .null, .int (nI (0)), .int (nI (0)), .int (nI (0)), .int (nI (0)), .int (nI (0))])), (wa, .inl (cI, 2048, .inl (fun _ => 0)))] _ := hP
  have hD : va_D A [(h, .inr (1, [.null, .null, .null, .int (nI (0)), .int (nI (0)), .int (nI (0)), .int (nI (0)), .int (nI (0))])), (wa, .inl (cI, 2048, .inl (fun _ => 0)))] := hD
  refine va_putF (D := (dC, dI)) (ci := 1) (v := .ref wa) (ty := .array .int) (C := R_FO) (T := F_FO) (N := 8) hx hb ht i_FO t_FO t_FO_ok n_FO hown hK hP hD hS 0 rfl rfl 0 (by decide) (ht _ q_1_69) (fun _ h9 => h9) rfl hin rfl (by decide +kernel) rfl rfl (Nat.le_of_ble_eq_true rfl) d_FO_init_10 (fun H locs hP hD hS => ?_)
  have hP : va_P (dC, dI) classes [(h, .inr (1, [.ref wa, .null, .null, .int (nI (0)), .int (nI (0)), .int (nI (0)), .int (nI (0)), .int (nI (0))])), (wa, .inl (cI, 2048, .inl (fun _ => 0)))] _ := hP
  have hD : va_D A [(h, .inr (1, [.ref wa, .null, .null, .int (nI (0)), .int (nI (0)), .int (nI (0)), .int (nI (0)), .int (nI (0))])), (wa, .inl (cI, 2048, .inl (fun _ => 0)))] := hD
  refine lv_aload_n hx hb d_FO_init_13 rfl (lv_at hl 0 rfl) ?_
  refine lv_bipush (v := nI (10)) hx hb d_FO_init_14 (by decide) ?_
  refine va_newa (atype := .int) (ty := .int) (N' := 10) (a0 := (10, .inl (fun _ => 0))) hx hb (ht _ q_1_38) rfl hK hP hD hS hA (fun _ => rfl) (by decide) (by decide) (by decide) (Nat.le_of_ble_eq_true rfl) (Nat.le_of_ble_eq_true rfl) d_FO_init_16 (fun sa cA H hK hP hD hS => ?_)
  obtain rfl : cI = cA := Option.some.inj (((show s.vm.findClass _ = some cI from (hK.2 0 _ rfl).2)).symm.trans (show s.vm.findClass _ = some cA from (hK.2 1 _ rfl).2))
  have hK : va_K (dC, dI) classes [(cI, .int)] s := hK.sub [0] rfl
  have hP : va_P (dC, dI) classes [(h, .inr (1, [.ref wa, .null, .null, .int (nI (0)), .int (nI (0)), .int (nI (0)), .int (nI (0)), .int (nI (0))])), (wa, .inl (cI, 2048, .inl (fun _ => 0))), (sa, .inl (cI, 10, .inl (fun _ => 0)))] _ := hP
  have hD : va_D A [(h, .inr (1, [.ref wa, .null, .null, .int (nI (0)), .int (nI (0)), .int (nI (0)), .int (nI (0)), .int (nI (0))])), (wa, .inl (cI, 2048, .inl (fun _ => 0))), (sa, .inl (cI, 10, .inl (fun _ => 0)))] := hD
  refine va_putF (D := (dC, dI)) (ci := 1) (v := .ref sa) (ty := .array .int) (C := R_FO) (T := F_FO) (N := 8) hx hb ht i_FO t_FO t_FO_ok n_FO hown hK hP hD hS 0 rfl rfl 1 (by decide) (ht _ q_1_70) (fun _ h9 => h9) rfl hin rfl (by decide +kernel) rfl rfl (Nat.le_of_ble_eq_true rfl) d_FO_init_18 (fun H locs hP hD hS => ?_)
  have hP : va_P (dC, dI) classes [(h, .inr (1, [.ref wa, .ref sa, .null, .int (nI (0)), .int (nI (0)), .int (nI (0)), .int (nI (0)), .int (nI (0))])), (wa, .inl (cI, 2048, .inl (fun _ => 0))), (sa, .inl (cI, 10, .inl (fun _ => 0)))] _ := hP
  have hD : va_D A [(h, .inr (1, [.ref wa, .ref sa, .null, .int (nI (0)), .int (nI (0)), .int (nI (0)), .int (nI (0)), .int (nI (0))])), (wa, .inl (cI, 2048, .inl (fun _ => 0))), (sa, .inl (cI, 10, .inl (fun _ => 0)))] := hD
  refine lv_aload_n hx hb d_FO_init_21 rfl (lv_at hl 0 rfl) ?_
  refine lv_bipush (v := nI (10)) hx hb d_FO_init_22 (by decide) ?_
  refine va_newa (atype := .int) (ty := .int) (N' := 10) (a0 := (10, .inl (fun _ => 0))) hx hb (ht _ q_1_38) rfl hK hP hD hS hA (fun _ => rfl) (by decide) (by decide) (by decide) (Nat.le_of_ble_eq_true rfl) (Nat.le_of_ble_eq_true rfl) d_FO_init_24 (fun la cA H hK hP hD hS => ?_)
  obtain rfl : cI = cA := Option.some.inj (((show s.vm.findClass _ = some cI from (hK.2 0 _ rfl).2)).symm.trans (show s.vm.findClass _ = some cA from (hK.2 1 _ rfl).2))
  have hK : va_K (dC, dI) classes [(cI, .int)] s := hK.sub [0] rfl
  have hP : va_P (dC, dI) classes [(h, .inr (1, [.ref wa, .ref sa, .null, .int (nI (0)), .int (nI (0)), .int (nI (0)), .int (nI (0)), .int (nI (0))])), (wa, .inl (cI, 2048, .inl (fun _ => 0))), (sa, .inl (cI, 10, .inl (fun _ => 0))), (la, .inl (cI, 10, .inl (fun _ => 0)))] _ := hP
  have hD : va_D A [(h, .inr (1, [.ref wa, .ref sa, .null, .int (nI (0)), .int (nI (0)), .int (nI (0)), .int (nI (0)), .int (nI (0))])), (wa, .inl (cI, 2048, .inl (fun _ => 0))), (sa, .inl (cI, 10, .inl (fun _ => 0))), (la, .inl (cI, 10, .inl (fun _ => 0)))] := hD
  refine va_putF (D := (dC, dI)) (ci := 1) (v := .ref la) (ty := .array .int) (C := R_FO) (T := F_FO) (N := 8) hx hb ht i_FO t_FO t_FO_ok n_FO hown hK hP hD hS 0 rfl rfl 2 (by decide) (ht _ q_1_71) (fun _ h9 => h9) rfl hin rfl (by decide +kernel) rfl rfl (Nat.le_of_ble_eq_true rfl) d_FO_init_26 (fun H locs hP hD hS => ?_)
  have hP : va_P (dC, dI) classes [(h, .inr (1, [.ref wa, .ref sa, .ref la, .int (nI (0)), .int (nI (0)), .int (nI (0)), .int (nI (0)), .int (nI (0))])), (wa, .inl (cI, 2048, .inl (fun _ => 0))), (sa, .inl (cI, 10, .inl (fun _ => 0))), (la, .inl (cI, 10, .inl (fun _ => 0)))] _ := hP
  have hD : va_D A [(h, .inr (1, [.ref wa, .ref sa, .ref la, .int (nI (0)), .int (nI (0)), .int (nI (0)), .int (nI (0)), .int (nI (0))])), (wa, .inl (cI, 2048, .inl (fun _ => 0))), (sa, .inl (cI, 10, .inl (fun _ => 0))), (la, .inl (cI, 10, .inl (fun _ => 0)))] := hD
  have hP9 := hP.sub (ws' := [(h, .inr (1, [.ref wa, .ref sa, .ref la, .int (nI (0)), .int (nI (0)), .int (nI (0)), .int (nI (0)), .int (nI (0))])), (wa, .inl (cI, 2048, .inl (fun _ => 0))), (sa, .inl (cI, 10, .inl (fun _ => 0))), (la, .inl (cI, 10, .inl (fun _ => 0)))]) [0, 1, 2, 3] rfl
  have hD9 := hD.sub (ws' := [(h, .inr (1, [.ref wa, .ref sa, .ref la, .int (nI (0)), .int (nI (0)), .int (nI (0)), .int (nI (0)), .int (nI (0))])), (wa, .inl (cI, 2048, .inl (fun _ => 0))), (sa, .inl (cI, 10, .inl (fun _ => 0))), (la, .inl (cI, 10, .inl (fun _ => 0)))]) [0, 1, 2, 3] (by decide) rfl
  exact W.vret hx hb hr (fun t ht hW => ⟨rfl, ⟨(wa, sa, la), by rw [ht]; exact hP9, hD9⟩, hS.F ht⟩) hS.2.2 d_FO_init_29
theorem d_LI_init_0 : decode b_LI_init 0 = .ok (.aload_n 0, 1) := by decide +kernel
theorem d_LI_init_1 : decode b_LI_init 1 = .ok (.invokespecial 5, 3) := by decide +kernel
theorem d_LI_init_4 : decode b_LI_init 4 = .ok (.aload_n 0, 1) := by decide +kernel
theorem d_LI_init_5 : decode b_LI_init 5 = .ok (.sipush 1066, 3) := by decide +kernel
theorem d_LI_init_8 : decode b_LI_init 8 = .ok (.newarray .int, 2) := by decide +kernel
theorem d_LI_init_10 : decode b_LI_init 10 = .ok (.putfield 11, 3) := by decide +kernel
theorem d_LI_init_13 : decode b_LI_init 13 = .ok (.aload_n 0, 1) := by decide +kernel
theorem d_LI_init_14 : decode b_LI_init 14 = .ok (.sipush 1066, 3) := by decide +kernel
theorem d_LI_init_17 : decode b_LI_init 17 = .ok (.newarray .int, 2) := by decide +kernel
theorem d_LI_init_19 : decode b_LI_init 19 = .ok (.putfield 15, 3) := by decide +kernel
theorem d_LI_init_22 : decode b_LI_init 22 = .ok (.aload_n 0, 1) := by decide +kernel
theorem d_LI_init_23 : decode b_LI_init 23 = .ok (.sipush 1066, 3) := by decide +kernel
theorem d_LI_init_26 : decode b_LI_init 26 = .ok (.newarray .boolean, 2) := by decide +kernel
theorem d_LI_init_28 : decode b_LI_init 28 = .ok (.putfield 18, 3) := by decide +kernel
theorem d_LI_init_31 : decode b_LI_init 31 = .ok (.aload_n 0, 1) := by decide +kernel
theorem d_LI_init_32 : decode b_LI_init 32 = .ok (.iconst 0, 1) := by decide +kernel
theorem d_LI_init_33 : decode b_LI_init 33 = .ok (.putfield 22, 3) := by decide +kernel
theorem d_LI_init_36 : decode b_LI_init 36 = .ok (.aload_n 0, 1) := by decide +kernel
theorem d_LI_init_37 : decode b_LI_init 37 = .ok (.iconst 0, 1) := by decide +kernel
theorem d_LI_init_38 : decode b_LI_init 38 = .ok (.putfield 26, 3) := by decide +kernel
theorem d_LI_init_41 : decode b_LI_init 41 = .ok (.return_, 1) := by decide +kernel
set_option maxHeartbeats 4000000 in
set_option maxRecDepth 100000 in
theorem c_LI_init (l : Launch) (dC : Nat → ClassId) (dI : Nat → Nat → Nat) (h : Nat) (cI : ClassId) (cZ : ClassId) (sz : Nat) : fm_MN (S := Nat × Nat × Nat) l (dC, dI) y_LI_init w_LI_init ({ frames := 1, cells := 3, slots := 3198, locals := 12 }) h sz 2 [.null, .null, .null, .int (nI (0)), .int (nI (0))] [(cI, .int), (cZ, .boolean)] (fun u => [(h, .inr (2, [.ref u.1, .ref u.2.1, .ref u.2.2, .int (nI (0)), .int (nI (0))])), (u.1, .inl (cI, 1066, .inl (fun _ => 0))), (u.2.1, .inl (cI, 1066, .inl (fun _ => 0))), (u.2.2, .inl (cZ, 1066, .inl (fun _ => 0)))]) 3 3198 := by
  refine Met.ofW (cc := b_LI_init) (maxL := 1) (ret := none) (by decide) rfl ?_
  intro pg ev s m args below meth cd s₁ BD hml hv
  obtain ⟨rfl, hsz, hP, hK⟩ := hv
  subst hsz
  have hx := BD.exec
  have hb := BD.bytes
  have hr := BD.returns
  have hts := atoms_spec (ws := w_LI_init) BD.pre
  have ht : ∀ w ∈ fm_T, w.before _ s = true := fun w h => hts w (List.mem_cons_of_mem _ h)
  have hown : s.vm.findClass R_LI = some m.cls := findClass_of_methodNamed BD.named
  have hlocks := BD.notSynchronized
  have hin : meth.name = "<init>" := (name_of_methodNamed BD.named BD.method).1
  have S : CallFix pg m cd b_LI_init 1 s _ w_LI_init R_LI := ⟨hx, hb, hml, hown, hts⟩
  have hD : va_D (va_A [(h, .inr (2, [.null, .null, .null, .int (nI (0)), .int (nI (0))]))] s.heap.size) [(h, .inr (2, [.null, .null, .null, .int (nI (0)), .int (nI (0))]))] := fm_one (Or.inl ⟨0, _, rfl⟩)
  generalize hAe : va_A [(h, .inr (2, [.null, .null, .null, .int (nI (0)), .int (nI (0))]))] s.heap.size = A at hD ⊢
  have hA : ∀ q : Nat, s.heap.size ≤ q → A q := fun q h => by rw [← hAe]; exact Or.inr h
  have hS : va_S A s.heap s.heap [] := va_S.rf
  have hl := lv_entry ([.ref h]) (n := 1) (Nat.le_of_ble_eq_true rfl)
  rw [lg_entry_eq]
  generalize (lg_sl ([.ref h]) ++ List.replicate (1 - (lg_sl ([.ref h])).length) Slot.unset).toArray = ls at hl ⊢
  have hl : lv_has ls 1 [(0, .ref h)] := hl
  refine lv_aload_n hx hb d_LI_init_0 rfl (lv_at hl 0 rfl) ?_
  refine W.objInit hx hb hown (ht _ q_1_44) (ht _ q_1_21) (ht _ q_1_22) rfl (by rw [hml]; exact hl.1) rfl d_LI_init_1 (Nat.le_of_ble_eq_true rfl) (Nat.le_of_ble_eq_true rfl) ?_
  refine W.eq (g2 := F0 m 4 ls []) rfl ?_
  refine lv_aload_n hx hb d_LI_init_4 rfl (lv_at hl 0 rfl) ?_
  refine lv_sipush (v := nI (1066)) hx hb d_LI_init_5 (by decide) ?_
  refine va_newa (atype := .int) (ty := .int) (N' := 1066) (a0 := (1066, .inl (fun _ => 0))) hx hb (ht _ q_1_38) rfl hK hP hD hS hA (fun _ => rfl) (by decide) (by decide) (by decide) (Nat.le_of_ble_eq_true rfl) (Nat.le_of_ble_eq_true rfl) d_LI_init_8 (fun pa cA H hK hP hD hS => ?_)
  obtain rfl : cI = cA := Option.some.inj (((show s.vm.findClass _ = some cI from (hK.2 0 _ rfl).2)).symm.trans (show s.vm.findClass _ = some cA from (hK.2 2 _ rfl).2))
  have hK : va_K (dC, dI) classes [(cI, .int), (cZ, .boolean)] s := hK.sub [0, 1] rfl
  have hP : va_P (dC, dI) classes [(h, .inr (2, [.null, .null, .null, .int (nI (0)), .int (nI (0))])), (pa, .inl (cI, 1066, .inl (fun _ => 0)))] _ := hP
  have hD : va_D A [(h, .inr (2, [.null, .null, .null, .int (nI (0)), .int (nI (0))])), (pa, .inl (cI, 1066, .inl (fun _ => 0)))] := hD
  refine va_putF (D := (dC, dI)) (ci := 2) (v := .ref pa) (ty := .array .int) (C := R_LI) (T := F_LI) (N := 5) hx hb ht i_LI t_LI t_LI_ok n_LI hown hK hP hD hS 0 rfl rfl 0 (by decide) (ht _ q_1_45) (fun _ h9 => h9) rfl hin rfl (by decide +kernel) rfl rfl (Nat.le_of_ble_eq_true rfl) d_LI_init_10 (fun H locs hP hD hS => ?_)
  have hP : va_P (dC, dI) classes [(h, .inr (2, [.ref pa, .null, .null, .int (nI (0)), .int (nI (0))])), (pa, .inl (cI, 1066, .inl (fun _ => 0)))] _ := hP
  have hD : va_D A [(h, .inr (2, [.ref pa, .null, .null, .int (nI (0)), .int (nI (0))])), (pa, .inl (cI, 1066, .inl (fun _ => 0)))] := hD
  refine lv_aload_n hx hb d_LI_init_13 rfl (lv_at hl 0 rfl) ?_
  refine lv_sipush (v := nI (1066)) hx hb d_LI_init_14 (by decide) ?_
  refine va_newa (atype := .int) (ty := .int) (N' := 1066) (a0 := (1066, .inl (fun _ => 0))) hx hb (ht _ q_1_38) rfl hK hP hD hS hA (fun _ => rfl) (by decide) (by decide) (by decide) (Nat.le_of_ble_eq_true rfl) (Nat.le_of_ble_eq_true rfl) d_LI_init_17 (fun va cA H hK hP hD hS => ?_)
  obtain rfl : cI = cA := Option.some.inj (((show s.vm.findClass _ = some cI from (hK.2 0 _ rfl).2)).symm.trans (show s.vm.findClass _ = some cA from (hK.2 2 _ rfl).2))
  have hK : va_K (dC, dI) classes [(cI, .int), (cZ, .boolean)] s := hK.sub [0, 1] rfl
  have hP : va_P (dC, dI) classes [(h, .inr (2, [.ref pa, .null, .null, .int (nI (0)), .int (nI (0))])), (pa, .inl (cI, 1066, .inl (fun _ => 0))), (va, .inl (cI, 1066, .inl (fun _ => 0)))] _ := hP
  have hD : va_D A [(h, .inr (2, [.ref pa, .null, .null, .int (nI (0)), .int (nI (0))])), (pa, .inl (cI, 1066, .inl (fun _ => 0))), (va, .inl (cI, 1066, .inl (fun _ => 0)))] := hD
  refine va_putF (D := (dC, dI)) (ci := 2) (v := .ref va) (ty := .array .int) (C := R_LI) (T := F_LI) (N := 5) hx hb ht i_LI t_LI t_LI_ok n_LI hown hK hP hD hS 0 rfl rfl 1 (by decide) (ht _ q_1_46) (fun _ h9 => h9) rfl hin rfl (by decide +kernel) rfl rfl (Nat.le_of_ble_eq_true rfl) d_LI_init_19 (fun H locs hP hD hS => ?_)
  have hP : va_P (dC, dI) classes [(h, .inr (2, [.ref pa, .ref va, .null, .int (nI (0)), .int (nI (0))])), (pa, .inl (cI, 1066, .inl (fun _ => 0))), (va, .inl (cI, 1066, .inl (fun _ => 0)))] _ := hP
  have hD : va_D A [(h, .inr (2, [.ref pa, .ref va, .null, .int (nI (0)), .int (nI (0))])), (pa, .inl (cI, 1066, .inl (fun _ => 0))), (va, .inl (cI, 1066, .inl (fun _ => 0)))] := hD
  refine lv_aload_n hx hb d_LI_init_22 rfl (lv_at hl 0 rfl) ?_
  refine lv_sipush (v := nI (1066)) hx hb d_LI_init_23 (by decide) ?_
  refine va_newa (atype := .boolean) (ty := .boolean) (N' := 1066) (a0 := (1066, .inl (fun _ => 0))) hx hb (ht _ q_1_62) rfl hK hP hD hS hA (fun _ => rfl) (by decide) (by decide) (by decide) (Nat.le_of_ble_eq_true rfl) (Nat.le_of_ble_eq_true rfl) d_LI_init_26 (fun na cA H hK hP hD hS => ?_)
  obtain rfl : cZ = cA := Option.some.inj (((show s.vm.findClass _ = some cZ from (hK.2 1 _ rfl).2)).symm.trans (show s.vm.findClass _ = some cA from (hK.2 2 _ rfl).2))
  have hK : va_K (dC, dI) classes [(cI, .int), (cZ, .boolean)] s := hK.sub [0, 1] rfl
  have hP : va_P (dC, dI) classes [(h, .inr (2, [.ref pa, .ref va, .null, .int (nI (0)), .int (nI (0))])), (pa, .inl (cI, 1066, .inl (fun _ => 0))), (va, .inl (cI, 1066, .inl (fun _ => 0))), (na, .inl (cZ, 1066, .inl (fun _ => 0)))] _ := hP
  have hD : va_D A [(h, .inr (2, [.ref pa, .ref va, .null, .int (nI (0)), .int (nI (0))])), (pa, .inl (cI, 1066, .inl (fun _ => 0))), (va, .inl (cI, 1066, .inl (fun _ => 0))), (na, .inl (cZ, 1066, .inl (fun _ => 0)))] := hD
  refine va_putF (D := (dC, dI)) (ci := 2) (v := .ref na) (ty := .array .boolean) (C := R_LI) (T := F_LI) (N := 5) hx hb ht i_LI t_LI t_LI_ok n_LI hown hK hP hD hS 0 rfl rfl 2 (by decide) (ht _ q_1_47) (fun _ h9 => h9) rfl hin rfl (by decide +kernel) rfl rfl (Nat.le_of_ble_eq_true rfl) d_LI_init_28 (fun H locs hP hD hS => ?_)
  have hP : va_P (dC, dI) classes [(h, .inr (2, [.ref pa, .ref va, .ref na, .int (nI (0)), .int (nI (0))])), (pa, .inl (cI, 1066, .inl (fun _ => 0))), (va, .inl (cI, 1066, .inl (fun _ => 0))), (na, .inl (cZ, 1066, .inl (fun _ => 0)))] _ := hP
  have hD : va_D A [(h, .inr (2, [.ref pa, .ref va, .ref na, .int (nI (0)), .int (nI (0))])), (pa, .inl (cI, 1066, .inl (fun _ => 0))), (va, .inl (cI, 1066, .inl (fun _ => 0))), (na, .inl (cZ, 1066, .inl (fun _ => 0)))] := hD
  refine lv_aload_n hx hb d_LI_init_31 rfl (lv_at hl 0 rfl) ?_
  refine lv_iconst (v := nI (0)) hx hb d_LI_init_32 (by decide) ?_
  refine va_put (D := (dC, dI)) (ci := 2) (v := .int (nI (0))) (ty := .int) (C := R_LI) (T := F_LI) (N := 5) hx hb ht i_LI t_LI t_LI_ok n_LI hown hK hP hD hS 0 rfl rfl 3 (by decide) (ht _ q_1_48) (fun _ h9 => h9) rfl (by decide +kernel) (rfl) (rfl) (Nat.le_of_ble_eq_true rfl) d_LI_init_33 (fun H locs hP hD hS => ?_)
  have hP : va_P (dC, dI) classes [(h, .inr (2, [.ref pa, .ref va, .ref na, .int (nI (0)), .int (nI (0))])), (pa, .inl (cI, 1066, .inl (fun _ => 0))), (va, .inl (cI, 1066, .inl (fun _ => 0))), (na, .inl (cZ, 1066, .inl (fun _ => 0)))] _ := hP
  have hD : va_D A [(h, .inr (2, [.ref pa, .ref va, .ref na, .int (nI (0)), .int (nI (0))])), (pa, .inl (cI, 1066, .inl (fun _ => 0))), (va, .inl (cI, 1066, .inl (fun _ => 0))), (na, .inl (cZ, 1066, .inl (fun _ => 0)))] := hD
  refine lv_aload_n hx hb d_LI_init_36 rfl (lv_at hl 0 rfl) ?_
  refine lv_iconst (v := nI (0)) hx hb d_LI_init_37 (by decide) ?_
  refine va_put (D := (dC, dI)) (ci := 2) (v := .int (nI (0))) (ty := .int) (C := R_LI) (T := F_LI) (N := 5) hx hb ht i_LI t_LI t_LI_ok n_LI hown hK hP hD hS 0 rfl rfl 4 (by decide) (ht _ q_1_49) (fun _ h9 => h9) rfl (by decide +kernel) (rfl) (rfl) (Nat.le_of_ble_eq_true rfl) d_LI_init_38 (fun H locs hP hD hS => ?_)
  have hP : va_P (dC, dI) classes [(h, .inr (2, [.ref pa, .ref va, .ref na, .int (nI (0)), .int (nI (0))])), (pa, .inl (cI, 1066, .inl (fun _ => 0))), (va, .inl (cI, 1066, .inl (fun _ => 0))), (na, .inl (cZ, 1066, .inl (fun _ => 0)))] _ := hP
  have hD : va_D A [(h, .inr (2, [.ref pa, .ref va, .ref na, .int (nI (0)), .int (nI (0))])), (pa, .inl (cI, 1066, .inl (fun _ => 0))), (va, .inl (cI, 1066, .inl (fun _ => 0))), (na, .inl (cZ, 1066, .inl (fun _ => 0)))] := hD
  have hP9 := hP.sub (ws' := [(h, .inr (2, [.ref pa, .ref va, .ref na, .int (nI (0)), .int (nI (0))])), (pa, .inl (cI, 1066, .inl (fun _ => 0))), (va, .inl (cI, 1066, .inl (fun _ => 0))), (na, .inl (cZ, 1066, .inl (fun _ => 0)))]) [0, 1, 2, 3] rfl
  have hD9 := hD.sub (ws' := [(h, .inr (2, [.ref pa, .ref va, .ref na, .int (nI (0)), .int (nI (0))])), (pa, .inl (cI, 1066, .inl (fun _ => 0))), (va, .inl (cI, 1066, .inl (fun _ => 0))), (na, .inl (cZ, 1066, .inl (fun _ => 0)))]) [0, 1, 2, 3] (by decide) rfl
  exact W.vret hx hb hr (fun t ht hW => ⟨rfl, ⟨(pa, va, na), by rw [ht]; exact hP9, hD9⟩, hS.F ht⟩) hS.2.2 d_LI_init_41
theorem d_FM_init_0 : decode b_FM_init 0 = .ok (.aload_n 0, 1) := by decide +kernel
theorem d_FM_init_1 : decode b_FM_init 1 = .ok (.invokespecial 1, 3) := by decide +kernel
theorem d_FM_init_4 : decode b_FM_init 4 = .ok (.aload_n 0, 1) := by decide +kernel
theorem d_FM_init_5 : decode b_FM_init 5 = .ok (.new 7, 3) := by decide +kernel
theorem d_FM_init_8 : decode b_FM_init 8 = .ok (.dup, 1) := by decide +kernel
theorem d_FM_init_9 : decode b_FM_init 9 = .ok (.invokespecial 9, 3) := by decide +kernel
theorem d_FM_init_12 : decode b_FM_init 12 = .ok (.putfield 10, 3) := by decide +kernel
theorem d_FM_init_15 : decode b_FM_init 15 = .ok (.aload_n 0, 1) := by decide +kernel
theorem d_FM_init_16 : decode b_FM_init 16 = .ok (.new 16, 3) := by decide +kernel
theorem d_FM_init_19 : decode b_FM_init 19 = .ok (.dup, 1) := by decide +kernel
theorem d_FM_init_20 : decode b_FM_init 20 = .ok (.invokespecial 18, 3) := by decide +kernel
theorem d_FM_init_23 : decode b_FM_init 23 = .ok (.putfield 19, 3) := by decide +kernel
theorem d_FM_init_26 : decode b_FM_init 26 = .ok (.aload_n 0, 1) := by decide +kernel
theorem d_FM_init_27 : decode b_FM_init 27 = .ok (.bipush 64, 2) := by decide +kernel
theorem d_FM_init_29 : decode b_FM_init 29 = .ok (.newarray .int, 2) := by decide +kernel
theorem d_FM_init_31 : decode b_FM_init 31 = .ok (.putfield 23, 3) := by decide +kernel
theorem d_FM_init_34 : decode b_FM_init 34 = .ok (.aload_n 0, 1) := by decide +kernel
theorem d_FM_init_35 : decode b_FM_init 35 = .ok (.iconst 0, 1) := by decide +kernel
theorem d_FM_init_36 : decode b_FM_init 36 = .ok (.putfield 27, 3) := by decide +kernel
theorem d_FM_init_39 : decode b_FM_init 39 = .ok (.aload_n 0, 1) := by decide +kernel
theorem d_FM_init_40 : decode b_FM_init 40 = .ok (.new 31, 3) := by decide +kernel
theorem d_FM_init_43 : decode b_FM_init 43 = .ok (.dup, 1) := by decide +kernel
theorem d_FM_init_44 : decode b_FM_init 44 = .ok (.invokespecial 33, 3) := by decide +kernel
theorem d_FM_init_47 : decode b_FM_init 47 = .ok (.putfield 34, 3) := by decide +kernel
theorem d_FM_init_50 : decode b_FM_init 50 = .ok (.aload_n 0, 1) := by decide +kernel
theorem d_FM_init_51 : decode b_FM_init 51 = .ok (.new 31, 3) := by decide +kernel
theorem d_FM_init_54 : decode b_FM_init 54 = .ok (.dup, 1) := by decide +kernel
theorem d_FM_init_55 : decode b_FM_init 55 = .ok (.invokespecial 33, 3) := by decide +kernel
theorem d_FM_init_58 : decode b_FM_init 58 = .ok (.putfield 38, 3) := by decide +kernel
theorem d_FM_init_61 : decode b_FM_init 61 = .ok (.aload_n 0, 1) := by decide +kernel
theorem d_FM_init_62 : decode b_FM_init 62 = .ok (.iconst 0, 1) := by decide +kernel
theorem d_FM_init_63 : decode b_FM_init 63 = .ok (.putfield 41, 3) := by decide +kernel
theorem d_FM_init_66 : decode b_FM_init 66 = .ok (.return_, 1) := by decide +kernel
set_option maxHeartbeats 4000000 in
set_option maxRecDepth 100000 in
theorem c_FM_init (l : Launch) (dC : Nat → ClassId) (dI : Nat → Nat → Nat) (h : Nat) (cI : ClassId) (cZ : ClassId) (sz : Nat) : fm_MN (S := Nat × Nat × Nat × Nat × Nat × Nat × Nat × Nat × Nat × Nat × Nat × Nat × Nat × Nat × Nat) l (dC, dI) y_FM_init w_FM_init ({ frames := 2, cells := 15, slots := 9469, locals := 32 }) h sz 3 [.null, .null, .null, .int (nI (0)), .null, .null, .int (nI (0))] [(cI, .int), (cZ, .boolean)] (fun u => [(h, .inr (3, [.ref u.1, .ref u.2.2.1, .ref u.2.2.2.2.2.2.1, .int (nI (0)), .ref u.2.2.2.2.2.2.2.1, .ref u.2.2.2.2.2.2.2.2.2.2.2.1, .int (nI (0))])), (u.1, .inr (0, [.ref u.2.1, .int (nI (0))])), (u.2.1, .inl (cI, 2048, .inl (fun _ => 0))), (u.2.2.1, .inr (2, [.ref u.2.2.2.1, .ref u.2.2.2.2.1, .ref u.2.2.2.2.2.1, .int (nI (0)), .int (nI (0))])), (u.2.2.2.1, .inl (cI, 1066, .inl (fun _ => 0))), (u.2.2.2.2.1, .inl (cI, 1066, .inl (fun _ => 0))), (u.2.2.2.2.2.1, .inl (cZ, 1066, .inl (fun _ => 0))), (u.2.2.2.2.2.2.1, .inl (cI, 64, .inl (fun _ => 0))), (u.2.2.2.2.2.2.2.1, .inr (1, [.ref u.2.2.2.2.2.2.2.2.1, .ref u.2.2.2.2.2.2.2.2.2.1, .ref u.2.2.2.2.2.2.2.2.2.2.1, .int (nI (0)), .int (nI (0)), .int (nI (0)), .int (nI (0)), .int (nI (0))])), (u.2.2.2.2.2.2.2.2.1, .inl (cI, 2048, .inl (fun _ => 0))), (u.2.2.2.2.2.2.2.2.2.1, .inl (cI, 10, .inl (fun _ => 0))), (u.2.2.2.2.2.2.2.2.2.2.1, .inl (cI, 10, .inl (fun _ => 0))), (u.2.2.2.2.2.2.2.2.2.2.2.1, .inr (1, [.ref u.2.2.2.2.2.2.2.2.2.2.2.2.1, .ref u.2.2.2.2.2.2.2.2.2.2.2.2.2.1, .ref u.2.2.2.2.2.2.2.2.2.2.2.2.2.2, .int (nI (0)), .int (nI (0)), .int (nI (0)), .int (nI (0)), .int (nI (0))])), (u.2.2.2.2.2.2.2.2.2.2.2.2.1, .inl (cI, 2048, .inl (fun _ => 0))), (u.2.2.2.2.2.2.2.2.2.2.2.2.2.1, .inl (cI, 10, .inl (fun _ => 0))), (u.2.2.2.2.2.2.2.2.2.2.2.2.2.2, .inl (cI, 10, .inl (fun _ => 0)))]) 15 9469 := by
  refine Met.ofW (cc := b_FM_init) (maxL := 1) (ret := none) (by decide) rfl ?_
  intro pg ev s m args below meth cd s₁ BD hml hv
  obtain ⟨rfl, hsz, hP, hK⟩ := hv
  subst hsz
  have hx := BD.exec
  have hb := BD.bytes
  have hr := BD.returns
  have hts := atoms_spec (ws := w_FM_init) BD.pre
  have ht : ∀ w ∈ fm_T, w.before _ s = true := fun w h => hts w (List.mem_cons_of_mem _ h)
  have hown : s.vm.findClass R_FM = some m.cls := findClass_of_methodNamed BD.named
  have hlocks := BD.notSynchronized
  have hin : meth.name = "<init>" := (name_of_methodNamed BD.named BD.method).1
  have S : CallFix pg m cd b_FM_init 1 s _ w_FM_init R_FM := ⟨hx, hb, hml, hown, hts⟩
  have hD : va_D (va_A [(h, .inr (3, [.null, .null, .null, .int (nI (0)), .null, .null, .int (nI (0))]))] s.heap.size) [(h, .inr (3, [.null, .null, .null, .int (nI (0)), .null, .null, .int (nI (0))]))] := fm_one (Or.inl ⟨0, _, rfl⟩)
  generalize hAe : va_A [(h, .inr (3, [.null, .null, .null, .int (nI (0)), .null, .null, .int (nI (0))]))] s.heap.size = A at hD ⊢
  have hA : ∀ q : Nat, s.heap.size ≤ q → A q := fun q h => by rw [← hAe]; exact Or.inr h
  have hS : va_S A s.heap s.heap [] := va_S.rf
  have hl := lv_entry ([.ref h]) (n := 1) (Nat.le_of_ble_eq_true rfl)
  rw [lg_entry_eq]
  generalize (lg_sl ([.ref h]) ++ List.replicate (1 - (lg_sl ([.ref h])).length) Slot.unset).toArray = ls at hl ⊢
  have hl : lv_has ls 1 [(0, .ref h)] := hl
  refine lv_aload_n hx hb d_FM_init_0 rfl (lv_at hl 0 rfl) ?_
  refine W.objInit hx hb hown (ht _ q_1_20) (ht _ q_1_21) (ht _ q_1_22) rfl (by rw [hml]; exact hl.1) rfl d_FM_init_1 (Nat.le_of_ble_eq_true rfl) (Nat.le_of_ble_eq_true rfl) ?_
  refine W.eq (g2 := F0 m 4 ls []) rfl ?_
  refine lv_aload_n hx hb d_FM_init_4 rfl (lv_at hl 0 rfl) ?_
  refine va_new (ci := 0) (fs := [.null, .int (nI (0))]) (C := R_BF) (T := F_BF) (N := 2) hx hb ht i_BF t_BF t_BF_ok hown (ht _ q_1_23) (ht _ q_1_24) (ht _ q_1_2) hK hP hD hS hA rfl (fun j hj => by rcases (show j = 0 ∨ j = 1 by omega) with rfl | rfl <;> rfl) (Nat.le_of_ble_eq_true rfl) (Nat.le_of_ble_eq_true rfl) d_FM_init_5 (fun bf H hP hD hS => ?_)
  have hP : va_P (dC, dI) classes [(h, .inr (3, [.null, .null, .null, .int (nI (0)), .null, .null, .int (nI (0))])), (bf, .inr (0, [.null, .int (nI (0))]))] _ := hP
  have hD : va_D A [(h, .inr (3, [.null, .null, .null, .int (nI (0)), .null, .null, .int (nI (0))])), (bf, .inr (0, [.null, .int (nI (0))]))] := hD
  refine lv_dup hx hb d_FM_init_8 rfl ?_
  refine fm_nv (wr := [(h, .inr (3, [.null, .null, .null, .int (nI (0)), .null, .null, .int (nI (0))]))]) S (c_BF_init l dC dI bf cI) rfl rfl k_BF_init q_1_25 ⟨Nat.le_of_ble_eq_true rfl, Nat.le_of_ble_eq_true rfl⟩ hP hD hS hA (hK.sub [0] rfl) [1] [0] rfl rfl (by decide) (by decide) hl.1 rfl (Nat.le_of_ble_eq_true rfl) ⟨Nat.le_of_ble_eq_true rfl, Nat.le_of_ble_eq_true rfl⟩ d_FM_init_9 (fun u H locs hP hD hS => ?_)
  obtain ⟨ba, rfl⟩ : ∃ z, z = u := ⟨_, rfl⟩
  have hP : va_P (dC, dI) classes [(h, .inr (3, [.null, .null, .null, .int (nI (0)), .null, .null, .int (nI (0))])), (bf, .inr (0, [.ref ba, .int (nI (0))])), (ba, .inl (cI, 2048, .inl (fun _ => 0)))] _ := hP
  have hD : va_D A [(h, .inr (3, [.null, .null, .null, .int (nI (0)), .null, .null, .int (nI (0))])), (bf, .inr (0, [.ref ba, .int (nI (0))])), (ba, .inl (cI, 2048, .inl (fun _ => 0)))] := hD
  refine va_putF (D := (dC, dI)) (ci := 3) (v := .ref bf) (ty := .object "FontMetrics$ByteFile") (C := R_FM) (T := F_FM) (N := 7) hx hb ht i_FM t_FM t_FM_ok n_FM hown hK hP hD hS 0 rfl rfl 0 (by decide) (ht _ q_1_99) (fun _ h9 => h9) rfl hin rfl (by decide +kernel) rfl rfl (Nat.le_of_ble_eq_true rfl) d_FM_init_12 (fun H locs hP hD hS => ?_)
  have hP : va_P (dC, dI) classes [(h, .inr (3, [.ref bf, .null, .null, .int (nI (0)), .null, .null, .int (nI (0))])), (bf, .inr (0, [.ref ba, .int (nI (0))])), (ba, .inl (cI, 2048, .inl (fun _ => 0)))] _ := hP
  have hD : va_D A [(h, .inr (3, [.ref bf, .null, .null, .int (nI (0)), .null, .null, .int (nI (0))])), (bf, .inr (0, [.ref ba, .int (nI (0))])), (ba, .inl (cI, 2048, .inl (fun _ => 0)))] := hD
  refine lv_aload_n hx hb d_FM_init_15 rfl (lv_at hl 0 rfl) ?_
  refine va_new (ci := 2) (fs := [.null, .null, .null, .int (nI (0)), .int (nI (0))]) (C := R_LI) (T := F_LI) (N := 5) hx hb ht i_LI t_LI t_LI_ok hown (ht _ q_1_39) (ht _ q_1_40) (ht _ q_1_3) hK hP hD hS hA rfl (fun j hj => by rcases (show j = 0 ∨ j = 1 ∨ j = 2 ∨ j = 3 ∨ j = 4 by omega) with rfl | rfl | rfl | rfl | rfl <;> rfl) (Nat.le_of_ble_eq_true rfl) (Nat.le_of_ble_eq_true rfl) d_FM_init_16 (fun li H hP hD hS => ?_)
  have hP : va_P (dC, dI) classes [(h, .inr (3, [.ref bf, .null, .null, .int (nI (0)), .null, .null, .int (nI (0))])), (bf, .inr (0, [.ref ba, .int (nI (0))])), (ba, .inl (cI, 2048, .inl (fun _ => 0))), (li, .inr (2, [.null, .null, .null, .int (nI (0)), .int (nI (0))]))] _ := hP
  have hD : va_D A [(h, .inr (3, [.ref bf, .null, .null, .int (nI (0)), .null, .null, .int (nI (0))])), (bf, .inr (0, [.ref ba, .int (nI (0))])), (ba, .inl (cI, 2048, .inl (fun _ => 0))), (li, .inr (2, [.null, .null, .null, .int (nI (0)), .int (nI (0))]))] := hD
  refine lv_dup hx hb d_FM_init_19 rfl ?_
  refine fm_nv (wr := [(h, .inr (3, [.ref bf, .null, .null, .int (nI (0)), .null, .null, .int (nI (0))])), (bf, .inr (0, [.ref ba, .int (nI (0))])), (ba, .inl (cI, 2048, .inl (fun _ => 0)))]) S (c_LI_init l dC dI li cI cZ) rfl rfl k_LI_init q_1_41 ⟨Nat.le_of_ble_eq_true rfl, Nat.le_of_ble_eq_true rfl⟩ hP hD hS hA (hK.sub [0, 1] rfl) [3] [0, 1, 2] rfl rfl (by decide) (by decide) hl.1 rfl (Nat.le_of_ble_eq_true rfl) ⟨Nat.le_of_ble_eq_true rfl, Nat.le_of_ble_eq_true rfl⟩ d_FM_init_20 (fun u H locs hP hD hS => ?_)
  obtain ⟨pa, va, na⟩ := u
  have hP : va_P (dC, dI) classes [(h, .inr (3, [.ref bf, .null, .null, .int (nI (0)), .null, .null, .int (nI (0))])), (bf, .inr (0, [.ref ba, .int (nI (0))])), (ba, .inl (cI, 2048, .inl (fun _ => 0))), (li, .inr (2, [.ref pa, .ref va, .ref na, .int (nI (0)), .int (nI (0))])), (pa, .inl (cI, 1066, .inl (fun _ => 0))), (va, .inl (cI, 1066, .inl (fun _ => 0))), (na, .inl (cZ, 1066, .inl (fun _ => 0)))] _ := hP
  have hD : va_D A [(h, .inr (3, [.ref bf, .null, .null, .int (nI (0)), .null, .null, .int (nI (0))])), (bf, .inr (0, [.ref ba, .int (nI (0))])), (ba, .inl (cI, 2048, .inl (fun _ => 0))), (li, .inr (2, [.ref pa, .ref va, .ref na, .int (nI (0)), .int (nI (0))])), (pa, .inl (cI, 1066, .inl (fun _ => 0))), (va, .inl (cI, 1066, .inl (fun _ => 0))), (na, .inl (cZ, 1066, .inl (fun _ => 0)))] := hD
  refine va_putF (D := (dC, dI)) (ci := 3) (v := .ref li) (ty := .object "FontMetrics$Line") (C := R_FM) (T := F_FM) (N := 7) hx hb ht i_FM t_FM t_FM_ok n_FM hown hK hP hD hS 0 rfl rfl 1 (by decide) (ht _ q_1_100) (fun _ h9 => h9) rfl hin rfl (by decide +kernel) rfl rfl (Nat.le_of_ble_eq_true rfl) d_FM_init_23 (fun H locs hP hD hS => ?_)
  have hP : va_P (dC, dI) classes [(h, .inr (3, [.ref bf, .ref li, .null, .int (nI (0)), .null, .null, .int (nI (0))])), (bf, .inr (0, [.ref ba, .int (nI (0))])), (ba, .inl (cI, 2048, .inl (fun _ => 0))), (li, .inr (2, [.ref pa, .ref va, .ref na, .int (nI (0)), .int (nI (0))])), (pa, .inl (cI, 1066, .inl (fun _ => 0))), (va, .inl (cI, 1066, .inl (fun _ => 0))), (na, .inl (cZ, 1066, .inl (fun _ => 0)))] _ := hP
  have hD : va_D A [(h, .inr (3, [.ref bf, .ref li, .null, .int (nI (0)), .null, .null, .int (nI (0))])), (bf, .inr (0, [.ref ba, .int (nI (0))])), (ba, .inl (cI, 2048, .inl (fun _ => 0))), (li, .inr (2, [.ref pa, .ref va, .ref na, .int (nI (0)), .int (nI (0))])), (pa, .inl (cI, 1066, .inl (fun _ => 0))), (va, .inl (cI, 1066, .inl (fun _ => 0))), (na, .inl (cZ, 1066, .inl (fun _ => 0)))] := hD
  refine lv_aload_n hx hb d_FM_init_26 rfl (lv_at hl 0 rfl) ?_
  refine lv_bipush (v := nI (64)) hx hb d_FM_init_27 (by decide) ?_
  refine va_newa (atype := .int) (ty := .int) (N' := 64) (a0 := (64, .inl (fun _ => 0))) hx hb (ht _ q_1_38) rfl hK hP hD hS hA (fun _ => rfl) (by decide) (by decide) (by decide) (Nat.le_of_ble_eq_true rfl) (Nat.le_of_ble_eq_true rfl) d_FM_init_29 (fun ra cA H hK hP hD hS => ?_)
  obtain rfl : cI = cA := Option.some.inj (((show s.vm.findClass _ = some cI from (hK.2 0 _ rfl).2)).symm.trans (show s.vm.findClass _ = some cA from (hK.2 2 _ rfl).2))
  have hK : va_K (dC, dI) classes [(cI, .int), (cZ, .boolean)] s := hK.sub [0, 1] rfl
  have hP : va_P (dC, dI) classes [(h, .inr (3, [.ref bf, .ref li, .null, .int (nI (0)), .null, .null, .int (nI (0))])), (bf, .inr (0, [.ref ba, .int (nI (0))])), (ba, .inl (cI, 2048, .inl (fun _ => 0))), (li, .inr (2, [.ref pa, .ref va, .ref na, .int (nI (0)), .int (nI (0))])), (pa, .inl (cI, 1066, .inl (fun _ => 0))), (va, .inl (cI, 1066, .inl (fun _ => 0))), (na, .inl (cZ, 1066, .inl (fun _ => 0))), (ra, .inl (cI, 64, .inl (fun _ => 0)))] _ := hP
  have hD : va_D A [(h, .inr (3, [.ref bf, .ref li, .null, .int (nI (0)), .null, .null, .int (nI (0))])), (bf, .inr (0, [.ref ba, .int (nI (0))])), (ba, .inl (cI, 2048, .inl (fun _ => 0))), (li, .inr (2, [.ref pa, .ref va, .ref na, .int (nI (0)), .int (nI (0))])), (pa, .inl (cI, 1066, .inl (fun _ => 0))), (va, .inl (cI, 1066, .inl (fun _ => 0))), (na, .inl (cZ, 1066, .inl (fun _ => 0))), (ra, .inl (cI, 64, .inl (fun _ => 0)))] := hD
  refine va_putF (D := (dC, dI)) (ci := 3) (v := .ref ra) (ty := .array .int) (C := R_FM) (T := F_FM) (N := 7) hx hb ht i_FM t_FM t_FM_ok n_FM hown hK hP hD hS 0 rfl rfl 2 (by decide) (ht _ q_1_101) (fun _ h9 => h9) rfl hin rfl (by decide +kernel) rfl rfl (Nat.le_of_ble_eq_true rfl) d_FM_init_31 (fun H locs hP hD hS => ?_)
  have hP : va_P (dC, dI) classes [(h, .inr (3, [.ref bf, .ref li, .ref ra, .int (nI (0)), .null, .null, .int (nI (0))])), (bf, .inr (0, [.ref ba, .int (nI (0))])), (ba, .inl (cI, 2048, .inl (fun _ => 0))), (li, .inr (2, [.ref pa, .ref va, .ref na, .int (nI (0)), .int (nI (0))])), (pa, .inl (cI, 1066, .inl (fun _ => 0))), (va, .inl (cI, 1066, .inl (fun _ => 0))), (na, .inl (cZ, 1066, .inl (fun _ => 0))), (ra, .inl (cI, 64, .inl (fun _ => 0)))] _ := hP
  have hD : va_D A [(h, .inr (3, [.ref bf, .ref li, .ref ra, .int (nI (0)), .null, .null, .int (nI (0))])), (bf, .inr (0, [.ref ba, .int (nI (0))])), (ba, .inl (cI, 2048, .inl (fun _ => 0))), (li, .inr (2, [.ref pa, .ref va, .ref na, .int (nI (0)), .int (nI (0))])), (pa, .inl (cI, 1066, .inl (fun _ => 0))), (va, .inl (cI, 1066, .inl (fun _ => 0))), (na, .inl (cZ, 1066, .inl (fun _ => 0))), (ra, .inl (cI, 64, .inl (fun _ => 0)))] := hD
  refine lv_aload_n hx hb d_FM_init_34 rfl (lv_at hl 0 rfl) ?_
  refine lv_iconst (v := nI (0)) hx hb d_FM_init_35 (by decide) ?_
  refine va_put (D := (dC, dI)) (ci := 3) (v := .int (nI (0))) (ty := .int) (C := R_FM) (T := F_FM) (N := 7) hx hb ht i_FM t_FM t_FM_ok n_FM hown hK hP hD hS 0 rfl rfl 3 (by decide) (ht _ q_1_102) (fun _ h9 => h9) rfl (by decide +kernel) (rfl) (rfl) (Nat.le_of_ble_eq_true rfl) d_FM_init_36 (fun H locs hP hD hS => ?_)
  have hP : va_P (dC, dI) classes [(h, .inr (3, [.ref bf, .ref li, .ref ra, .int (nI (0)), .null, .null, .int (nI (0))])), (bf, .inr (0, [.ref ba, .int (nI (0))])), (ba, .inl (cI, 2048, .inl (fun _ => 0))), (li, .inr (2, [.ref pa, .ref va, .ref na, .int (nI (0)), .int (nI (0))])), (pa, .inl (cI, 1066, .inl (fun _ => 0))), (va, .inl (cI, 1066, .inl (fun _ => 0))), (na, .inl (cZ, 1066, .inl (fun _ => 0))), (ra, .inl (cI, 64, .inl (fun _ => 0)))] _ := hP
  have hD : va_D A [(h, .inr (3, [.ref bf, .ref li, .ref ra, .int (nI (0)), .null, .null, .int (nI (0))])), (bf, .inr (0, [.ref ba, .int (nI (0))])), (ba, .inl (cI, 2048, .inl (fun _ => 0))), (li, .inr (2, [.ref pa, .ref va, .ref na, .int (nI (0)), .int (nI (0))])), (pa, .inl (cI, 1066, .inl (fun _ => 0))), (va, .inl (cI, 1066, .inl (fun _ => 0))), (na, .inl (cZ, 1066, .inl (fun _ => 0))), (ra, .inl (cI, 64, .inl (fun _ => 0)))] := hD
  refine lv_aload_n hx hb d_FM_init_39 rfl (lv_at hl 0 rfl) ?_
  refine va_new (ci := 1) (fs := [.null, .null, .null, .int (nI (0)), .int (nI (0)), .int (nI (0)), .int (nI (0)), .int (nI (0))]) (C := R_FO) (T := F_FO) (N := 8) hx hb ht i_FO t_FO t_FO_ok hown (ht _ q_1_63) (ht _ q_1_64) (ht _ q_1_4) hK hP hD hS hA rfl (fun j hj => by rcases (show j = 0 ∨ j = 1 ∨ j = 2 ∨ j = 3 ∨ j = 4 ∨ j = 5 ∨ j = 6 ∨ j = 7 by omega) with rfl | rfl | rfl | rfl | rfl | rfl | rfl | rfl <;> rfl) (Nat.le_of_ble_eq_true rfl) (Nat.le_of_ble_eq_true rfl) d_FM_init_40 (fun o H hP hD hS => ?_)
  have hP : va_P (dC, dI) classes [(h, .inr (3, [.ref bf, .ref li, .ref ra, .int (nI (0)), .null, .null, .int (nI (0))])), (bf, .inr (0, [.ref ba, .int (nI (0))])), (ba, .inl (cI, 2048, .inl (fun _ => 0))), (li, .inr (2, [.ref pa, .ref va, .ref na, .int (nI (0)), .int (nI (0))])), (pa, .inl (cI, 1066, .inl (fun _ => 0))), (va, .inl (cI, 1066, .inl (fun _ => 0))), (na, .inl (cZ, 1066, .inl (fun _ => 0))), (ra, .inl (cI, 64, .inl (fun _ => 0))), (o, .inr (1, [.null, .null, .null, .int (nI (0)), .int (nI (0)), .int (nI (0)), .int (nI (0)), .int (nI (0))]))] _ := hP
  have hD : va_D A [(h, .inr (3, [.ref bf, .ref li, .ref ra, .int (nI (0)), .null, .null, .int (nI (0))])), (bf, .inr (0, [.ref ba, .int (nI (0))])), (ba, .inl (cI, 2048, .inl (fun _ => 0))), (li, .inr (2, [.ref pa, .ref va, .ref na, .int (nI (0)), .int (nI (0))])), (pa, .inl (cI, 1066, .inl (fun _ => 0))), (va, .inl (cI, 1066, .inl (fun _ => 0))), (na, .inl (cZ, 1066, .inl (fun _ => 0))), (ra, .inl (cI, 64, .inl (fun _ => 0))), (o, .inr (1, [.null, .null, .null, .int (nI (0)), .int (nI (0)), .int (nI (0)), .int (nI (0)), .int (nI (0))]))] := hD
  refine lv_dup hx hb d_FM_init_43 rfl ?_
  refine fm_nv (wr := [(h, .inr (3, [.ref bf, .ref li, .ref ra, .int (nI (0)), .null, .null, .int (nI (0))])), (bf, .inr (0, [.ref ba, .int (nI (0))])), (ba, .inl (cI, 2048, .inl (fun _ => 0))), (li, .inr (2, [.ref pa, .ref va, .ref na, .int (nI (0)), .int (nI (0))])), (pa, .inl (cI, 1066, .inl (fun _ => 0))), (va, .inl (cI, 1066, .inl (fun _ => 0))), (na, .inl (cZ, 1066, .inl (fun _ => 0))), (ra, .inl (cI, 64, .inl (fun _ => 0)))]) S (c_FO_init l dC dI o cI) rfl rfl k_FO_init q_1_65 ⟨Nat.le_of_ble_eq_true rfl, Nat.le_of_ble_eq_true rfl⟩ hP hD hS hA (hK.sub [0] rfl) [8] [0, 1, 2, 3, 4, 5, 6, 7] rfl rfl (by decide) (by decide) hl.1 rfl (Nat.le_of_ble_eq_true rfl) ⟨Nat.le_of_ble_eq_true rfl, Nat.le_of_ble_eq_true rfl⟩ d_FM_init_44 (fun u H locs hP hD hS => ?_)
  obtain ⟨wa, sa, la⟩ := u
  have hP : va_P (dC, dI) classes [(h, .inr (3, [.ref bf, .ref li, .ref ra, .int (nI (0)), .null, .null, .int (nI (0))])), (bf, .inr (0, [.ref ba, .int (nI (0))])), (ba, .inl (cI, 2048, .inl (fun _ => 0))), (li, .inr (2, [.ref pa, .ref va, .ref na, .int (nI (0)), .int (nI (0))])), (pa, .inl (cI, 1066, .inl (fun _ => 0))), (va, .inl (cI, 1066, .inl (fun _ => 0))), (na, .inl (cZ, 1066, .inl (fun _ => 0))), (ra, .inl (cI, 64, .inl (fun _ => 0))), (o, .inr (1, [.ref wa, .ref sa, .ref la, .int (nI (0)), .int (nI (0)), .int (nI (0)), .int (nI (0)), .int (nI (0))])), (wa, .inl (cI, 2048, .inl (fun _ => 0))), (sa, .inl (cI, 10, .inl (fun _ => 0))), (la, .inl (cI, 10, .inl (fun _ => 0)))] _ := hP
  have hD : va_D A [(h, .inr (3, [.ref bf, .ref li, .ref ra, .int (nI (0)), .null, .null, .int (nI (0))])), (bf, .inr (0, [.ref ba, .int (nI (0))])), (ba, .inl (cI, 2048, .inl (fun _ => 0))), (li, .inr (2, [.ref pa, .ref va, .ref na, .int (nI (0)), .int (nI (0))])), (pa, .inl (cI, 1066, .inl (fun _ => 0))), (va, .inl (cI, 1066, .inl (fun _ => 0))), (na, .inl (cZ, 1066, .inl (fun _ => 0))), (ra, .inl (cI, 64, .inl (fun _ => 0))), (o, .inr (1, [.ref wa, .ref sa, .ref la, .int (nI (0)), .int (nI (0)), .int (nI (0)), .int (nI (0)), .int (nI (0))])), (wa, .inl (cI, 2048, .inl (fun _ => 0))), (sa, .inl (cI, 10, .inl (fun _ => 0))), (la, .inl (cI, 10, .inl (fun _ => 0)))] := hD
  refine va_put (D := (dC, dI)) (ci := 3) (v := .ref o) (ty := .object "FontMetrics$Font") (C := R_FM) (T := F_FM) (N := 7) hx hb ht i_FM t_FM t_FM_ok n_FM hown hK hP hD hS 0 rfl rfl 4 (by decide) (ht _ q_1_103) (fun _ h9 => h9) rfl (by decide +kernel) (rfl) (rfl) (Nat.le_of_ble_eq_true rfl) d_FM_init_47 (fun H locs hP hD hS => ?_)
  have hP : va_P (dC, dI) classes [(h, .inr (3, [.ref bf, .ref li, .ref ra, .int (nI (0)), .ref o, .null, .int (nI (0))])), (bf, .inr (0, [.ref ba, .int (nI (0))])), (ba, .inl (cI, 2048, .inl (fun _ => 0))), (li, .inr (2, [.ref pa, .ref va, .ref na, .int (nI (0)), .int (nI (0))])), (pa, .inl (cI, 1066, .inl (fun _ => 0))), (va, .inl (cI, 1066, .inl (fun _ => 0))), (na, .inl (cZ, 1066, .inl (fun _ => 0))), (ra, .inl (cI, 64, .inl (fun _ => 0))), (o, .inr (1, [.ref wa, .ref sa, .ref la, .int (nI (0)), .int (nI (0)), .int (nI (0)), .int (nI (0)), .int (nI (0))])), (wa, .inl (cI, 2048, .inl (fun _ => 0))), (sa, .inl (cI, 10, .inl (fun _ => 0))), (la, .inl (cI, 10, .inl (fun _ => 0)))] _ := hP
  have hD : va_D A [(h, .inr (3, [.ref bf, .ref li, .ref ra, .int (nI (0)), .ref o, .null, .int (nI (0))])), (bf, .inr (0, [.ref ba, .int (nI (0))])), (ba, .inl (cI, 2048, .inl (fun _ => 0))), (li, .inr (2, [.ref pa, .ref va, .ref na, .int (nI (0)), .int (nI (0))])), (pa, .inl (cI, 1066, .inl (fun _ => 0))), (va, .inl (cI, 1066, .inl (fun _ => 0))), (na, .inl (cZ, 1066, .inl (fun _ => 0))), (ra, .inl (cI, 64, .inl (fun _ => 0))), (o, .inr (1, [.ref wa, .ref sa, .ref la, .int (nI (0)), .int (nI (0)), .int (nI (0)), .int (nI (0)), .int (nI (0))])), (wa, .inl (cI, 2048, .inl (fun _ => 0))), (sa, .inl (cI, 10, .inl (fun _ => 0))), (la, .inl (cI, 10, .inl (fun _ => 0)))] := hD
  refine lv_aload_n hx hb d_FM_init_50 rfl (lv_at hl 0 rfl) ?_
  refine va_new (ci := 1) (fs := [.null, .null, .null, .int (nI (0)), .int (nI (0)), .int (nI (0)), .int (nI (0)), .int (nI (0))]) (C := R_FO) (T := F_FO) (N := 8) hx hb ht i_FO t_FO t_FO_ok hown (ht _ q_1_63) (ht _ q_1_64) (ht _ q_1_4) hK hP hD hS hA rfl (fun j hj => by rcases (show j = 0 ∨ j = 1 ∨ j = 2 ∨ j = 3 ∨ j = 4 ∨ j = 5 ∨ j = 6 ∨ j = 7 by omega) with rfl | rfl | rfl | rfl | rfl | rfl | rfl | rfl <;> rfl) (Nat.le_of_ble_eq_true rfl) (Nat.le_of_ble_eq_true rfl) d_FM_init_51 (fun sp H hP hD hS => ?_)
  have hP : va_P (dC, dI) classes [(h, .inr (3, [.ref bf, .ref li, .ref ra, .int (nI (0)), .ref o, .null, .int (nI (0))])), (bf, .inr (0, [.ref ba, .int (nI (0))])), (ba, .inl (cI, 2048, .inl (fun _ => 0))), (li, .inr (2, [.ref pa, .ref va, .ref na, .int (nI (0)), .int (nI (0))])), (pa, .inl (cI, 1066, .inl (fun _ => 0))), (va, .inl (cI, 1066, .inl (fun _ => 0))), (na, .inl (cZ, 1066, .inl (fun _ => 0))), (ra, .inl (cI, 64, .inl (fun _ => 0))), (o, .inr (1, [.ref wa, .ref sa, .ref la, .int (nI (0)), .int (nI (0)), .int (nI (0)), .int (nI (0)), .int (nI (0))])), (wa, .inl (cI, 2048, .inl (fun _ => 0))), (sa, .inl (cI, 10, .inl (fun _ => 0))), (la, .inl (cI, 10, .inl (fun _ => 0))), (sp, .inr (1, [.null, .null, .null, .int (nI (0)), .int (nI (0)), .int (nI (0)), .int (nI (0)), .int (nI (0))]))] _ := hP
  have hD : va_D A [(h, .inr (3, [.ref bf, .ref li, .ref ra, .int (nI (0)), .ref o, .null, .int (nI (0))])), (bf, .inr (0, [.ref ba, .int (nI (0))])), (ba, .inl (cI, 2048, .inl (fun _ => 0))), (li, .inr (2, [.ref pa, .ref va, .ref na, .int (nI (0)), .int (nI (0))])), (pa, .inl (cI, 1066, .inl (fun _ => 0))), (va, .inl (cI, 1066, .inl (fun _ => 0))), (na, .inl (cZ, 1066, .inl (fun _ => 0))), (ra, .inl (cI, 64, .inl (fun _ => 0))), (o, .inr (1, [.ref wa, .ref sa, .ref la, .int (nI (0)), .int (nI (0)), .int (nI (0)), .int (nI (0)), .int (nI (0))])), (wa, .inl (cI, 2048, .inl (fun _ => 0))), (sa, .inl (cI, 10, .inl (fun _ => 0))), (la, .inl (cI, 10, .inl (fun _ => 0))), (sp, .inr (1, [.null, .null, .null, .int (nI (0)), .int (nI (0)), .int (nI (0)), .int (nI (0)), .int (nI (0))]))] := hD
  refine lv_dup hx hb d_FM_init_54 rfl ?_
  refine fm_nv (wr := [(h, .inr (3, [.ref bf, .ref li, .ref ra, .int (nI (0)), .ref o, .null, .int (nI (0))])), (bf, .inr (0, [.ref ba, .int (nI (0))])), (ba, .inl (cI, 2048, .inl (fun _ => 0))), (li, .inr (2, [.ref pa, .ref va, .ref na, .int (nI (0)), .int (nI (0))])), (pa, .inl (cI, 1066, .inl (fun _ => 0))), (va, .inl (cI, 1066, .inl (fun _ => 0))), (na, .inl (cZ, 1066, .inl (fun _ => 0))), (ra, .inl (cI, 64, .inl (fun _ => 0))), (o, .inr (1, [.ref wa, .ref sa, .ref la, .int (nI (0)), .int (nI (0)), .int (nI (0)), .int (nI (0)), .int (nI (0))])), (wa, .inl (cI, 2048, .inl (fun _ => 0))), (sa, .inl (cI, 10, .inl (fun _ => 0))), (la, .inl (cI, 10, .inl (fun _ => 0)))]) S (c_FO_init l dC dI sp cI) rfl rfl k_FO_init q_1_65 ⟨Nat.le_of_ble_eq_true rfl, Nat.le_of_ble_eq_true rfl⟩ hP hD hS hA (hK.sub [0] rfl) [12] [0, 1, 2, 3, 4, 5, 6, 7, 8, 9, 10, 11] rfl rfl (by decide) (by decide) hl.1 rfl (Nat.le_of_ble_eq_true rfl) ⟨Nat.le_of_ble_eq_true rfl, Nat.le_of_ble_eq_true rfl⟩ d_FM_init_55 (fun u H locs hP hD hS => ?_)
  obtain ⟨wb, sb, lb⟩ := u
  have hP : va_P (dC, dI) classes [(h, .inr (3, [.ref bf, .ref li, .ref ra, .int (nI (0)), .ref o, .null, .int (nI (0))])), (bf, .inr (0, [.ref ba, .int (nI (0))])), (ba, .inl (cI, 2048, .inl (fun _ => 0))), (li, .inr (2, [.ref pa, .ref va, .ref na, .int (nI (0)), .int (nI (0))])), (pa, .inl (cI, 1066, .inl (fun _ => 0))), (va, .inl (cI, 1066, .inl (fun _ => 0))), (na, .inl (cZ, 1066, .inl (fun _ => 0))), (ra, .inl (cI, 64, .inl (fun _ => 0))), (o, .inr (1, [.ref wa, .ref sa, .ref la, .int (nI (0)), .int (nI (0)), .int (nI (0)), .int (nI (0)), .int (nI (0))])), (wa, .inl (cI, 2048, .inl (fun _ => 0))), (sa, .inl (cI, 10, .inl (fun _ => 0))), (la, .inl (cI, 10, .inl (fun _ => 0))), (sp, .inr (1, [.ref wb, .ref sb, .ref lb, .int (nI (0)), .int (nI (0)), .int (nI (0)), .int (nI (0)), .int (nI (0))])), (wb, .inl (cI, 2048, .inl (fun _ => 0))), (sb, .inl (cI, 10, .inl (fun _ => 0))), (lb, .inl (cI, 10, .inl (fun _ => 0)))] _ := hP
  have hD : va_D A [(h, .inr (3, [.ref bf, .ref li, .ref ra, .int (nI (0)), .ref o, .null, .int (nI (0))])), (bf, .inr (0, [.ref ba, .int (nI (0))])), (ba, .inl (cI, 2048, .inl (fun _ => 0))), (li, .inr (2, [.ref pa, .ref va, .ref na, .int (nI (0)), .int (nI (0))])), (pa, .inl (cI, 1066, .inl (fun _ => 0))), (va, .inl (cI, 1066, .inl (fun _ => 0))), (na, .inl (cZ, 1066, .inl (fun _ => 0))), (ra, .inl (cI, 64, .inl (fun _ => 0))), (o, .inr (1, [.ref wa, .ref sa, .ref la, .int (nI (0)), .int (nI (0)), .int (nI (0)), .int (nI (0)), .int (nI (0))])), (wa, .inl (cI, 2048, .inl (fun _ => 0))), (sa, .inl (cI, 10, .inl (fun _ => 0))), (la, .inl (cI, 10, .inl (fun _ => 0))), (sp, .inr (1, [.ref wb, .ref sb, .ref lb, .int (nI (0)), .int (nI (0)), .int (nI (0)), .int (nI (0)), .int (nI (0))])), (wb, .inl (cI, 2048, .inl (fun _ => 0))), (sb, .inl (cI, 10, .inl (fun _ => 0))), (lb, .inl (cI, 10, .inl (fun _ => 0)))] := hD
  refine va_put (D := (dC, dI)) (ci := 3) (v := .ref sp) (ty := .object "FontMetrics$Font") (C := R_FM) (T := F_FM) (N := 7) hx hb ht i_FM t_FM t_FM_ok n_FM hown hK hP hD hS 0 rfl rfl 5 (by decide) (ht _ q_1_104) (fun _ h9 => h9) rfl (by decide +kernel) (rfl) (rfl) (Nat.le_of_ble_eq_true rfl) d_FM_init_58 (fun H locs hP hD hS => ?_)
  have hP : va_P (dC, dI) classes [(h, .inr (3, [.ref bf, .ref li, .ref ra, .int (nI (0)), .ref o, .ref sp, .int (nI (0))])), (bf, .inr (0, [.ref ba, .int (nI (0))])), (ba, .inl (cI, 2048, .inl (fun _ => 0))), (li, .inr (2, [.ref pa, .ref va, .ref na, .int (nI (0)), .int (nI (0))])), (pa, .inl (cI, 1066, .inl (fun _ => 0))), (va, .inl (cI, 1066, .inl (fun _ => 0))), (na, .inl (cZ, 1066, .inl (fun _ => 0))), (ra, .inl (cI, 64, .inl (fun _ => 0))), (o, .inr (1, [.ref wa, .ref sa, .ref la, .int (nI (0)), .int (nI (0)), .int (nI (0)), .int (nI (0)), .int (nI (0))])), (wa, .inl (cI, 2048, .inl (fun _ => 0))), (sa, .inl (cI, 10, .inl (fun _ => 0))), (la, .inl (cI, 10, .inl (fun _ => 0))), (sp, .inr (1, [.ref wb, .ref sb, .ref lb, .int (nI (0)), .int (nI (0)), .int (nI (0)), .int (nI (0)), .int (nI (0))])), (wb, .inl (cI, 2048, .inl (fun _ => 0))), (sb, .inl (cI, 10, .inl (fun _ => 0))), (lb, .inl (cI, 10, .inl (fun _ => 0)))] _ := hP
  have hD : va_D A [(h, .inr (3, [.ref bf, .ref li, .ref ra, .int (nI (0)), .ref o, .ref sp, .int (nI (0))])), (bf, .inr (0, [.ref ba, .int (nI (0))])), (ba, .inl (cI, 2048, .inl (fun _ => 0))), (li, .inr (2, [.ref pa, .ref va, .ref na, .int (nI (0)), .int (nI (0))])), (pa, .inl (cI, 1066, .inl (fun _ => 0))), (va, .inl (cI, 1066, .inl (fun _ => 0))), (na, .inl (cZ, 1066, .inl (fun _ => 0))), (ra, .inl (cI, 64, .inl (fun _ => 0))), (o, .inr (1, [.ref wa, .ref sa, .ref la, .int (nI (0)), .int (nI (0)), .int (nI (0)), .int (nI (0)), .int (nI (0))])), (wa, .inl (cI, 2048, .inl (fun _ => 0))), (sa, .inl (cI, 10, .inl (fun _ => 0))), (la, .inl (cI, 10, .inl (fun _ => 0))), (sp, .inr (1, [.ref wb, .ref sb, .ref lb, .int (nI (0)), .int (nI (0)), .int (nI (0)), .int (nI (0)), .int (nI (0))])), (wb, .inl (cI, 2048, .inl (fun _ => 0))), (sb, .inl (cI, 10, .inl (fun _ => 0))), (lb, .inl (cI, 10, .inl (fun _ => 0)))] := hD
  refine lv_aload_n hx hb d_FM_init_61 rfl (lv_at hl 0 rfl) ?_
  refine lv_iconst (v := nI (0)) hx hb d_FM_init_62 (by decide) ?_
  refine va_put (D := (dC, dI)) (ci := 3) (v := .int (nI (0))) (ty := .boolean) (C := R_FM) (T := F_FM) (N := 7) hx hb ht i_FM t_FM t_FM_ok n_FM hown hK hP hD hS 0 rfl rfl 6 (by decide) (ht _ q_1_105) (fun _ h9 => h9) rfl (by decide +kernel) (rfl) (rfl) (Nat.le_of_ble_eq_true rfl) d_FM_init_63 (fun H locs hP hD hS => ?_)
  have hP : va_P (dC, dI) classes [(h, .inr (3, [.ref bf, .ref li, .ref ra, .int (nI (0)), .ref o, .ref sp, .int (nI (0))])), (bf, .inr (0, [.ref ba, .int (nI (0))])), (ba, .inl (cI, 2048, .inl (fun _ => 0))), (li, .inr (2, [.ref pa, .ref va, .ref na, .int (nI (0)), .int (nI (0))])), (pa, .inl (cI, 1066, .inl (fun _ => 0))), (va, .inl (cI, 1066, .inl (fun _ => 0))), (na, .inl (cZ, 1066, .inl (fun _ => 0))), (ra, .inl (cI, 64, .inl (fun _ => 0))), (o, .inr (1, [.ref wa, .ref sa, .ref la, .int (nI (0)), .int (nI (0)), .int (nI (0)), .int (nI (0)), .int (nI (0))])), (wa, .inl (cI, 2048, .inl (fun _ => 0))), (sa, .inl (cI, 10, .inl (fun _ => 0))), (la, .inl (cI, 10, .inl (fun _ => 0))), (sp, .inr (1, [.ref wb, .ref sb, .ref lb, .int (nI (0)), .int (nI (0)), .int (nI (0)), .int (nI (0)), .int (nI (0))])), (wb, .inl (cI, 2048, .inl (fun _ => 0))), (sb, .inl (cI, 10, .inl (fun _ => 0))), (lb, .inl (cI, 10, .inl (fun _ => 0)))] _ := hP
  have hD : va_D A [(h, .inr (3, [.ref bf, .ref li, .ref ra, .int (nI (0)), .ref o, .ref sp, .int (nI (0))])), (bf, .inr (0, [.ref ba, .int (nI (0))])), (ba, .inl (cI, 2048, .inl (fun _ => 0))), (li, .inr (2, [.ref pa, .ref va, .ref na, .int (nI (0)), .int (nI (0))])), (pa, .inl (cI, 1066, .inl (fun _ => 0))), (va, .inl (cI, 1066, .inl (fun _ => 0))), (na, .inl (cZ, 1066, .inl (fun _ => 0))), (ra, .inl (cI, 64, .inl (fun _ => 0))), (o, .inr (1, [.ref wa, .ref sa, .ref la, .int (nI (0)), .int (nI (0)), .int (nI (0)), .int (nI (0)), .int (nI (0))])), (wa, .inl (cI, 2048, .inl (fun _ => 0))), (sa, .inl (cI, 10, .inl (fun _ => 0))), (la, .inl (cI, 10, .inl (fun _ => 0))), (sp, .inr (1, [.ref wb, .ref sb, .ref lb, .int (nI (0)), .int (nI (0)), .int (nI (0)), .int (nI (0)), .int (nI (0))])), (wb, .inl (cI, 2048, .inl (fun _ => 0))), (sb, .inl (cI, 10, .inl (fun _ => 0))), (lb, .inl (cI, 10, .inl (fun _ => 0)))] := hD
  have hP9 := hP.sub (ws' := [(h, .inr (3, [.ref bf, .ref li, .ref ra, .int (nI (0)), .ref o, .ref sp, .int (nI (0))])), (bf, .inr (0, [.ref ba, .int (nI (0))])), (ba, .inl (cI, 2048, .inl (fun _ => 0))), (li, .inr (2, [.ref pa, .ref va, .ref na, .int (nI (0)), .int (nI (0))])), (pa, .inl (cI, 1066, .inl (fun _ => 0))), (va, .inl (cI, 1066, .inl (fun _ => 0))), (na, .inl (cZ, 1066, .inl (fun _ => 0))), (ra, .inl (cI, 64, .inl (fun _ => 0))), (o, .inr (1, [.ref wa, .ref sa, .ref la, .int (nI (0)), .int (nI (0)), .int (nI (0)), .int (nI (0)), .int (nI (0))])), (wa, .inl (cI, 2048, .inl (fun _ => 0))), (sa, .inl (cI, 10, .inl (fun _ => 0))), (la, .inl (cI, 10, .inl (fun _ => 0))), (sp, .inr (1, [.ref wb, .ref sb, .ref lb, .int (nI (0)), .int (nI (0)), .int (nI (0)), .int (nI (0)), .int (nI (0))])), (wb, .inl (cI, 2048, .inl (fun _ => 0))), (sb, .inl (cI, 10, .inl (fun _ => 0))), (lb, .inl (cI, 10, .inl (fun _ => 0)))]) [0, 1, 2, 3, 4, 5, 6, 7, 8, 9, 10, 11, 12, 13, 14, 15] rfl
  have hD9 := hD.sub (ws' := [(h, .inr (3, [.ref bf, .ref li, .ref ra, .int (nI (0)), .ref o, .ref sp, .int (nI (0))])), (bf, .inr (0, [.ref ba, .int (nI (0))])), (ba, .inl (cI, 2048, .inl (fun _ => 0))), (li, .inr (2, [.ref pa, .ref va, .ref na, .int (nI (0)), .int (nI (0))])), (pa, .inl (cI, 1066, .inl (fun _ => 0))), (va, .inl (cI, 1066, .inl (fun _ => 0))), (na, .inl (cZ, 1066, .inl (fun _ => 0))), (ra, .inl (cI, 64, .inl (fun _ => 0))), (o, .inr (1, [.ref wa, .ref sa, .ref la, .int (nI (0)), .int (nI (0)), .int (nI (0)), .int (nI (0)), .int (nI (0))])), (wa, .inl (cI, 2048, .inl (fun _ => 0))), (sa, .inl (cI, 10, .inl (fun _ => 0))), (la, .inl (cI, 10, .inl (fun _ => 0))), (sp, .inr (1, [.ref wb, .ref sb, .ref lb, .int (nI (0)), .int (nI (0)), .int (nI (0)), .int (nI (0)), .int (nI (0))])), (wb, .inl (cI, 2048, .inl (fun _ => 0))), (sb, .inl (cI, 10, .inl (fun _ => 0))), (lb, .inl (cI, 10, .inl (fun _ => 0)))]) [0, 1, 2, 3, 4, 5, 6, 7, 8, 9, 10, 11, 12, 13, 14, 15] (by decide) rfl
  exact W.vret hx hb hr (fun t ht hW => ⟨rfl, ⟨(bf, ba, li, pa, va, na, ra, o, wa, sa, la, sp, wb, sb, lb), by rw [ht]; exact hP9, hD9⟩, hS.F ht⟩) hS.2.2 d_FM_init_66
theorem d_MO_init_0 : decode b_MO_init 0 = .ok (.aload_n 0, 1) := by decide +kernel
theorem d_MO_init_1 : decode b_MO_init 1 = .ok (.invokespecial 1, 3) := by decide +kernel
theorem d_MO_init_4 : decode b_MO_init 4 = .ok (.aload_n 0, 1) := by decide +kernel
theorem d_MO_init_5 : decode b_MO_init 5 = .ok (.sipush 8192, 3) := by decide +kernel
theorem d_MO_init_8 : decode b_MO_init 8 = .ok (.newarray .byte, 2) := by decide +kernel
theorem d_MO_init_10 : decode b_MO_init 10 = .ok (.putfield 7, 3) := by decide +kernel
theorem d_MO_init_13 : decode b_MO_init 13 = .ok (.aload_n 0, 1) := by decide +kernel
theorem d_MO_init_14 : decode b_MO_init 14 = .ok (.sipush 8192, 3) := by decide +kernel
theorem d_MO_init_17 : decode b_MO_init 17 = .ok (.newarray .byte, 2) := by decide +kernel
theorem d_MO_init_19 : decode b_MO_init 19 = .ok (.putfield 13, 3) := by decide +kernel
theorem d_MO_init_22 : decode b_MO_init 22 = .ok (.aload_n 0, 1) := by decide +kernel
theorem d_MO_init_23 : decode b_MO_init 23 = .ok (.bipush 64, 2) := by decide +kernel
theorem d_MO_init_25 : decode b_MO_init 25 = .ok (.newarray .byte, 2) := by decide +kernel
theorem d_MO_init_27 : decode b_MO_init 27 = .ok (.putfield 16, 3) := by decide +kernel
theorem d_MO_init_30 : decode b_MO_init 30 = .ok (.aload_n 0, 1) := by decide +kernel
theorem d_MO_init_31 : decode b_MO_init 31 = .ok (.sipush 1100, 3) := by decide +kernel
theorem d_MO_init_34 : decode b_MO_init 34 = .ok (.newarray .int, 2) := by decide +kernel
theorem d_MO_init_36 : decode b_MO_init 36 = .ok (.putfield 19, 3) := by decide +kernel
theorem d_MO_init_39 : decode b_MO_init 39 = .ok (.aload_n 0, 1) := by decide +kernel
theorem d_MO_init_40 : decode b_MO_init 40 = .ok (.sipush 1100, 3) := by decide +kernel
theorem d_MO_init_43 : decode b_MO_init 43 = .ok (.newarray .int, 2) := by decide +kernel
theorem d_MO_init_45 : decode b_MO_init 45 = .ok (.putfield 23, 3) := by decide +kernel
theorem d_MO_init_48 : decode b_MO_init 48 = .ok (.return_, 1) := by decide +kernel
set_option maxHeartbeats 4000000 in
set_option maxRecDepth 100000 in
theorem c_MO_init (l : Launch) (dC : Nat → ClassId) (dI : Nat → Nat → Nat) (h : Nat) (cI : ClassId) (cB : ClassId) (sz : Nat) : fm_MN (S := Nat × Nat × Nat × Nat × Nat) l (dC, dI) y_MO_init w_MO_init ({ frames := 1, cells := 5, slots := 18648, locals := 12 }) h sz 4 [.int (nI (0)), .null, .int (nI (0)), .null, .int (nI (0)), .int (nI (0)), .null, .int (nI (0)), .null, .null, .int (nI (0))] [(cI, .int), (cB, .byte)] (fun u => [(h, .inr (4, [.int (nI (0)), .ref u.1, .int (nI (0)), .ref u.2.1, .int (nI (0)), .int (nI (0)), .ref u.2.2.1, .int (nI (0)), .ref u.2.2.2.1, .ref u.2.2.2.2, .int (nI (0))])), (u.1, .inl (cB, 8192, .inl (fun _ => 0))), (u.2.1, .inl (cB, 8192, .inl (fun _ => 0))), (u.2.2.1, .inl (cB, 64, .inl (fun _ => 0))), (u.2.2.2.1, .inl (cI, 1100, .inl (fun _ => 0))), (u.2.2.2.2, .inl (cI, 1100, .inl (fun _ => 0)))]) 5 18648 := by
  refine Met.ofW (cc := b_MO_init) (maxL := 1) (ret := none) (by decide) rfl ?_
  intro pg ev s m args below meth cd s₁ BD hml hv
  obtain ⟨rfl, hsz, hP, hK⟩ := hv
  subst hsz
  have hx := BD.exec
  have hb := BD.bytes
  have hr := BD.returns
  have hts := atoms_spec (ws := w_MO_init) BD.pre
  have ht : ∀ w ∈ fm_T, w.before _ s = true := fun w h => hts w (List.mem_cons_of_mem _ h)
  have hown : s.vm.findClass R_MO = some m.cls := findClass_of_methodNamed BD.named
  have hlocks := BD.notSynchronized
  have hin : meth.name = "<init>" := (name_of_methodNamed BD.named BD.method).1
  have S : CallFix pg m cd b_MO_init 1 s _ w_MO_init R_MO := ⟨hx, hb, hml, hown, hts⟩
  have hD : va_D (va_A [(h, .inr (4, [.int (nI (0)), .null, .int (nI (0)), .null, .int (nI (0)), .int (nI (0)), .null, .int (nI (0)), .null, .null, .int (nI (0))]))] s.heap.size) [(h, .inr (4, [.int (nI (0)), .null, .int (nI (0)), .null, .int (nI (0)), .int (nI (0)), .null, .int (nI (0)), .null, .null, .int (nI (0))]))] := fm_one (Or.inl ⟨0, _, rfl⟩)
  generalize hAe : va_A [(h, .inr (4, [.int (nI (0)), .null, .int (nI (0)), .null, .int (nI (0)), .int (nI (0)), .null, .int (nI (0)), .null, .null, .int (nI (0))]))] s.heap.size = A at hD ⊢
  have hA : ∀ q : Nat, s.heap.size ≤ q → A q := fun q h => by rw [← hAe]; exact Or.inr h
  have hS : va_S A s.heap s.heap [] := va_S.rf
  have hl := lv_entry ([.ref h]) (n := 1) (Nat.le_of_ble_eq_true rfl)
  rw [lg_entry_eq]
  generalize (lg_sl ([.ref h]) ++ List.replicate (1 - (lg_sl ([.ref h])).length) Slot.unset).toArray = ls at hl ⊢
  have hl : lv_has ls 1 [(0, .ref h)] := hl
  refine lv_aload_n hx hb d_MO_init_0 rfl (lv_at hl 0 rfl) ?_
  refine W.objInit hx hb hown (ht _ q_3_112) (ht _ q_1_21) (ht _ q_1_22) rfl (by rw [hml]; exact hl.1) rfl d_MO_init_1 (Nat.le_of_ble_eq_true rfl) (Nat.le_of_ble_eq_true rfl) ?_
  refine W.eq (g2 := F0 m 4 ls []) rfl ?_
  refine lv_aload_n hx hb d_MO_init_4 rfl (lv_at hl 0 rfl) ?_
  refine lv_sipush (v := nI (8192)) hx hb d_MO_init_5 (by decide) ?_
  refine va_newa (atype := .byte) (ty := .byte) (N' := 8192) (a0 := (8192, .inl (fun _ => 0))) hx hb (ht _ q_2_28) rfl hK hP hD hS hA (fun _ => rfl) (by decide) (by decide) (by decide) (Nat.le_of_ble_eq_true rfl) (Nat.le_of_ble_eq_true rfl) d_MO_init_8 (fun fa cA H hK hP hD hS => ?_)
  obtain rfl : cB = cA := Option.some.inj (((show s.vm.findClass _ = some cB from (hK.2 1 _ rfl).2)).symm.trans (show s.vm.findClass _ = some cA from (hK.2 2 _ rfl).2))
  have hK : va_K (dC, dI) classes [(cI, .int), (cB, .byte)] s := hK.sub [0, 1] rfl
  have hP : va_P (dC, dI) classes [(h, .inr (4, [.int (nI (0)), .null, .int (nI (0)), .null, .int (nI (0)), .int (nI (0)), .null, .int (nI (0)), .null, .null, .int (nI (0))])), (fa, .inl (cB, 8192, .inl (fun _ => 0)))] _ := hP
  have hD : va_D A [(h, .inr (4, [.int (nI (0)), .null, .int (nI (0)), .null, .int (nI (0)), .int (nI (0)), .null, .int (nI (0)), .null, .null, .int (nI (0))])), (fa, .inl (cB, 8192, .inl (fun _ => 0)))] := hD
  refine va_putF (D := (dC, dI)) (ci := 4) (v := .ref fa) (ty := .array .byte) (C := R_MO) (T := F_MO) (N := 11) hx hb ht i_MO t_MO t_MO_ok n_MO hown hK hP hD hS 0 rfl rfl 1 (by decide) (ht _ q_3_114) (fun _ h9 => h9) rfl hin rfl (by decide +kernel) rfl rfl (Nat.le_of_ble_eq_true rfl) d_MO_init_10 (fun H locs hP hD hS => ?_)
  have hP : va_P (dC, dI) classes [(h, .inr (4, [.int (nI (0)), .ref fa, .int (nI (0)), .null, .int (nI (0)), .int (nI (0)), .null, .int (nI (0)), .null, .null, .int (nI (0))])), (fa, .inl (cB, 8192, .inl (fun _ => 0)))] _ := hP
  have hD : va_D A [(h, .inr (4, [.int (nI (0)), .ref fa, .int (nI (0)), .null, .int (nI (0)), .int (nI (0)), .null, .int (nI (0)), .null, .null, .int (nI (0))])), (fa, .inl (cB, 8192, .inl (fun _ => 0)))] := hD
  refine lv_aload_n hx hb d_MO_init_13 rfl (lv_at hl 0 rfl) ?_
  refine lv_sipush (v := nI (8192)) hx hb d_MO_init_14 (by decide) ?_
  refine va_newa (atype := .byte) (ty := .byte) (N' := 8192) (a0 := (8192, .inl (fun _ => 0))) hx hb (ht _ q_2_28) rfl hK hP hD hS hA (fun _ => rfl) (by decide) (by decide) (by decide) (Nat.le_of_ble_eq_true rfl) (Nat.le_of_ble_eq_true rfl) d_MO_init_17 (fun ga cA H hK hP hD hS => ?_)
  obtain rfl : cB = cA := Option.some.inj (((show s.vm.findClass _ = some cB from (hK.2 1 _ rfl).2)).symm.trans (show s.vm.findClass _ = some cA from (hK.2 2 _ rfl).2))
  have hK : va_K (dC, dI) classes [(cI, .int), (cB, .byte)] s := hK.sub [0, 1] rfl
  have hP : va_P (dC, dI) classes [(h, .inr (4, [.int (nI (0)), .ref fa, .int (nI (0)), .null, .int (nI (0)), .int (nI (0)), .null, .int (nI (0)), .null, .null, .int (nI (0))])), (fa, .inl (cB, 8192, .inl (fun _ => 0))), (ga, .inl (cB, 8192, .inl (fun _ => 0)))] _ := hP
  have hD : va_D A [(h, .inr (4, [.int (nI (0)), .ref fa, .int (nI (0)), .null, .int (nI (0)), .int (nI (0)), .null, .int (nI (0)), .null, .null, .int (nI (0))])), (fa, .inl (cB, 8192, .inl (fun _ => 0))), (ga, .inl (cB, 8192, .inl (fun _ => 0)))] := hD
  refine va_putF (D := (dC, dI)) (ci := 4) (v := .ref ga) (ty := .array .byte) (C := R_MO) (T := F_MO) (N := 11) hx hb ht i_MO t_MO t_MO_ok n_MO hown hK hP hD hS 0 rfl rfl 3 (by decide) (ht _ q_3_116) (fun _ h9 => h9) rfl hin rfl (by decide +kernel) rfl rfl (Nat.le_of_ble_eq_true rfl) d_MO_init_19 (fun H locs hP hD hS => ?_)
  have hP : va_P (dC, dI) classes [(h, .inr (4, [.int (nI (0)), .ref fa, .int (nI (0)), .ref ga, .int (nI (0)), .int (nI (0)), .null, .int (nI (0)), .null, .null, .int (nI (0))])), (fa, .inl (cB, 8192, .inl (fun _ => 0))), (ga, .inl (cB, 8192, .inl (fun _ => 0)))] _ := hP
  have hD : va_D A [(h, .inr (4, [.int (nI (0)), .ref fa, .int (nI (0)), .ref ga, .int (nI (0)), .int (nI (0)), .null, .int (nI (0)), .null, .null, .int (nI (0))])), (fa, .inl (cB, 8192, .inl (fun _ => 0))), (ga, .inl (cB, 8192, .inl (fun _ => 0)))] := hD
  refine lv_aload_n hx hb d_MO_init_22 rfl (lv_at hl 0 rfl) ?_
  refine lv_bipush (v := nI (64)) hx hb d_MO_init_23 (by decide) ?_
  refine va_newa (atype := .byte) (ty := .byte) (N' := 64) (a0 := (64, .inl (fun _ => 0))) hx hb (ht _ q_2_28) rfl hK hP hD hS hA (fun _ => rfl) (by decide) (by decide) (by decide) (Nat.le_of_ble_eq_true rfl) (Nat.le_of_ble_eq_true rfl) d_MO_init_25 (fun mr cA H hK hP hD hS => ?_)
  obtain rfl : cB = cA := Option.some.inj (((show s.vm.findClass _ = some cB from (hK.2 1 _ rfl).2)).symm.trans (show s.vm.findClass _ = some cA from (hK.2 2 _ rfl).2))
  have hK : va_K (dC, dI) classes [(cI, .int), (cB, .byte)] s := hK.sub [0, 1] rfl
  have hP : va_P (dC, dI) classes [(h, .inr (4, [.int (nI (0)), .ref fa, .int (nI (0)), .ref ga, .int (nI (0)), .int (nI (0)), .null, .int (nI (0)), .null, .null, .int (nI (0))])), (fa, .inl (cB, 8192, .inl (fun _ => 0))), (ga, .inl (cB, 8192, .inl (fun _ => 0))), (mr, .inl (cB, 64, .inl (fun _ => 0)))] _ := hP
  have hD : va_D A [(h, .inr (4, [.int (nI (0)), .ref fa, .int (nI (0)), .ref ga, .int (nI (0)), .int (nI (0)), .null, .int (nI (0)), .null, .null, .int (nI (0))])), (fa, .inl (cB, 8192, .inl (fun _ => 0))), (ga, .inl (cB, 8192, .inl (fun _ => 0))), (mr, .inl (cB, 64, .inl (fun _ => 0)))] := hD
  refine va_putF (D := (dC, dI)) (ci := 4) (v := .ref mr) (ty := .array .byte) (C := R_MO) (T := F_MO) (N := 11) hx hb ht i_MO t_MO t_MO_ok n_MO hown hK hP hD hS 0 rfl rfl 6 (by decide) (ht _ q_3_119) (fun _ h9 => h9) rfl hin rfl (by decide +kernel) rfl rfl (Nat.le_of_ble_eq_true rfl) d_MO_init_27 (fun H locs hP hD hS => ?_)
  have hP : va_P (dC, dI) classes [(h, .inr (4, [.int (nI (0)), .ref fa, .int (nI (0)), .ref ga, .int (nI (0)), .int (nI (0)), .ref mr, .int (nI (0)), .null, .null, .int (nI (0))])), (fa, .inl (cB, 8192, .inl (fun _ => 0))), (ga, .inl (cB, 8192, .inl (fun _ => 0))), (mr, .inl (cB, 64, .inl (fun _ => 0)))] _ := hP
  have hD : va_D A [(h, .inr (4, [.int (nI (0)), .ref fa, .int (nI (0)), .ref ga, .int (nI (0)), .int (nI (0)), .ref mr, .int (nI (0)), .null, .null, .int (nI (0))])), (fa, .inl (cB, 8192, .inl (fun _ => 0))), (ga, .inl (cB, 8192, .inl (fun _ => 0))), (mr, .inl (cB, 64, .inl (fun _ => 0)))] := hD
  refine lv_aload_n hx hb d_MO_init_30 rfl (lv_at hl 0 rfl) ?_
  refine lv_sipush (v := nI (1100)) hx hb d_MO_init_31 (by decide) ?_
  refine va_newa (atype := .int) (ty := .int) (N' := 1100) (a0 := (1100, .inl (fun _ => 0))) hx hb (ht _ q_1_38) rfl hK hP hD hS hA (fun _ => rfl) (by decide) (by decide) (by decide) (Nat.le_of_ble_eq_true rfl) (Nat.le_of_ble_eq_true rfl) d_MO_init_34 (fun ka cA H hK hP hD hS => ?_)
  obtain rfl : cI = cA := Option.some.inj (((show s.vm.findClass _ = some cI from (hK.2 0 _ rfl).2)).symm.trans (show s.vm.findClass _ = some cA from (hK.2 2 _ rfl).2))
  have hK : va_K (dC, dI) classes [(cI, .int), (cB, .byte)] s := hK.sub [0, 1] rfl
  have hP : va_P (dC, dI) classes [(h, .inr (4, [.int (nI (0)), .ref fa, .int (nI (0)), .ref ga, .int (nI (0)), .int (nI (0)), .ref mr, .int (nI (0)), .null, .null, .int (nI (0))])), (fa, .inl (cB, 8192, .inl (fun _ => 0))), (ga, .inl (cB, 8192, .inl (fun _ => 0))), (mr, .inl (cB, 64, .inl (fun _ => 0))), (ka, .inl (cI, 1100, .inl (fun _ => 0)))] _ := hP
  have hD : va_D A [(h, .inr (4, [.int (nI (0)), .ref fa, .int (nI (0)), .ref ga, .int (nI (0)), .int (nI (0)), .ref mr, .int (nI (0)), .null, .null, .int (nI (0))])), (fa, .inl (cB, 8192, .inl (fun _ => 0))), (ga, .inl (cB, 8192, .inl (fun _ => 0))), (mr, .inl (cB, 64, .inl (fun _ => 0))), (ka, .inl (cI, 1100, .inl (fun _ => 0)))] := hD
  refine va_putF (D := (dC, dI)) (ci := 4) (v := .ref ka) (ty := .array .int) (C := R_MO) (T := F_MO) (N := 11) hx hb ht i_MO t_MO t_MO_ok n_MO hown hK hP hD hS 0 rfl rfl 8 (by decide) (ht _ q_3_121) (fun _ h9 => h9) rfl hin rfl (by decide +kernel) rfl rfl (Nat.le_of_ble_eq_true rfl) d_MO_init_36 (fun H locs hP hD hS => ?_)
  have hP : va_P (dC, dI) classes [(h, .inr (4, [.int (nI (0)), .ref fa, .int (nI (0)), .ref ga, .int (nI (0)), .int (nI (0)), .ref mr, .int (nI (0)), .ref ka, .null, .int (nI (0))])), (fa, .inl (cB, 8192, .inl (fun _ => 0))), (ga, .inl (cB, 8192, .inl (fun _ => 0))), (mr, .inl (cB, 64, .inl (fun _ => 0))), (ka, .inl (cI, 1100, .inl (fun _ => 0)))] _ := hP
  have hD : va_D A [(h, .inr (4, [.int (nI (0)), .ref fa, .int (nI (0)), .ref ga, .int (nI (0)), .int (nI (0)), .ref mr, .int (nI (0)), .ref ka, .null, .int (nI (0))])), (fa, .inl (cB, 8192, .inl (fun _ => 0))), (ga, .inl (cB, 8192, .inl (fun _ => 0))), (mr, .inl (cB, 64, .inl (fun _ => 0))), (ka, .inl (cI, 1100, .inl (fun _ => 0)))] := hD
  refine lv_aload_n hx hb d_MO_init_39 rfl (lv_at hl 0 rfl) ?_
  refine lv_sipush (v := nI (1100)) hx hb d_MO_init_40 (by decide) ?_
  refine va_newa (atype := .int) (ty := .int) (N' := 1100) (a0 := (1100, .inl (fun _ => 0))) hx hb (ht _ q_1_38) rfl hK hP hD hS hA (fun _ => rfl) (by decide) (by decide) (by decide) (Nat.le_of_ble_eq_true rfl) (Nat.le_of_ble_eq_true rfl) d_MO_init_43 (fun kw cA H hK hP hD hS => ?_)
  obtain rfl : cI = cA := Option.some.inj (((show s.vm.findClass _ = some cI from (hK.2 0 _ rfl).2)).symm.trans (show s.vm.findClass _ = some cA from (hK.2 2 _ rfl).2))
  have hK : va_K (dC, dI) classes [(cI, .int), (cB, .byte)] s := hK.sub [0, 1] rfl
  have hP : va_P (dC, dI) classes [(h, .inr (4, [.int (nI (0)), .ref fa, .int (nI (0)), .ref ga, .int (nI (0)), .int (nI (0)), .ref mr, .int (nI (0)), .ref ka, .null, .int (nI (0))])), (fa, .inl (cB, 8192, .inl (fun _ => 0))), (ga, .inl (cB, 8192, .inl (fun _ => 0))), (mr, .inl (cB, 64, .inl (fun _ => 0))), (ka, .inl (cI, 1100, .inl (fun _ => 0))), (kw, .inl (cI, 1100, .inl (fun _ => 0)))] _ := hP
  have hD : va_D A [(h, .inr (4, [.int (nI (0)), .ref fa, .int (nI (0)), .ref ga, .int (nI (0)), .int (nI (0)), .ref mr, .int (nI (0)), .ref ka, .null, .int (nI (0))])), (fa, .inl (cB, 8192, .inl (fun _ => 0))), (ga, .inl (cB, 8192, .inl (fun _ => 0))), (mr, .inl (cB, 64, .inl (fun _ => 0))), (ka, .inl (cI, 1100, .inl (fun _ => 0))), (kw, .inl (cI, 1100, .inl (fun _ => 0)))] := hD
  refine va_putF (D := (dC, dI)) (ci := 4) (v := .ref kw) (ty := .array .int) (C := R_MO) (T := F_MO) (N := 11) hx hb ht i_MO t_MO t_MO_ok n_MO hown hK hP hD hS 0 rfl rfl 9 (by decide) (ht _ q_3_122) (fun _ h9 => h9) rfl hin rfl (by decide +kernel) rfl rfl (Nat.le_of_ble_eq_true rfl) d_MO_init_45 (fun H locs hP hD hS => ?_)
  have hP : va_P (dC, dI) classes [(h, .inr (4, [.int (nI (0)), .ref fa, .int (nI (0)), .ref ga, .int (nI (0)), .int (nI (0)), .ref mr, .int (nI (0)), .ref ka, .ref kw, .int (nI (0))])), (fa, .inl (cB, 8192, .inl (fun _ => 0))), (ga, .inl (cB, 8192, .inl (fun _ => 0))), (mr, .inl (cB, 64, .inl (fun _ => 0))), (ka, .inl (cI, 1100, .inl (fun _ => 0))), (kw, .inl (cI, 1100, .inl (fun _ => 0)))] _ := hP
  have hD : va_D A [(h, .inr (4, [.int (nI (0)), .ref fa, .int (nI (0)), .ref ga, .int (nI (0)), .int (nI (0)), .ref mr, .int (nI (0)), .ref ka, .ref kw, .int (nI (0))])), (fa, .inl (cB, 8192, .inl (fun _ => 0))), (ga, .inl (cB, 8192, .inl (fun _ => 0))), (mr, .inl (cB, 64, .inl (fun _ => 0))), (ka, .inl (cI, 1100, .inl (fun _ => 0))), (kw, .inl (cI, 1100, .inl (fun _ => 0)))] := hD
  have hP9 := hP.sub (ws' := [(h, .inr (4, [.int (nI (0)), .ref fa, .int (nI (0)), .ref ga, .int (nI (0)), .int (nI (0)), .ref mr, .int (nI (0)), .ref ka, .ref kw, .int (nI (0))])), (fa, .inl (cB, 8192, .inl (fun _ => 0))), (ga, .inl (cB, 8192, .inl (fun _ => 0))), (mr, .inl (cB, 64, .inl (fun _ => 0))), (ka, .inl (cI, 1100, .inl (fun _ => 0))), (kw, .inl (cI, 1100, .inl (fun _ => 0)))]) [0, 1, 2, 3, 4, 5] rfl
  have hD9 := hD.sub (ws' := [(h, .inr (4, [.int (nI (0)), .ref fa, .int (nI (0)), .ref ga, .int (nI (0)), .int (nI (0)), .ref mr, .int (nI (0)), .ref ka, .ref kw, .int (nI (0))])), (fa, .inl (cB, 8192, .inl (fun _ => 0))), (ga, .inl (cB, 8192, .inl (fun _ => 0))), (mr, .inl (cB, 64, .inl (fun _ => 0))), (ka, .inl (cI, 1100, .inl (fun _ => 0))), (kw, .inl (cI, 1100, .inl (fun _ => 0)))]) [0, 1, 2, 3, 4, 5] (by decide) rfl
  exact W.vret hx hb hr (fun t ht hW => ⟨rfl, ⟨(fa, ga, mr, ka, kw), by rw [ht]; exact hP9, hD9⟩, hS.F ht⟩) hS.2.2 d_MO_init_48
