theorem d_BF_cut_0 : decode b_BF_cut 0 = .ok (.iload_n 1, 1) := by decide +kernel
theorem d_BF_cut_1 : decode b_BF_cut 1 = .ok (.ifCond .lt 11, 3) := by decide +kernel
theorem d_BF_cut_4 : decode b_BF_cut 4 = .ok (.iload_n 1, 1) := by decide +kernel
theorem d_BF_cut_5 : decode b_BF_cut 5 = .ok (.aload_n 0, 1) := by decide +kernel
theorem d_BF_cut_6 : decode b_BF_cut 6 = .ok (.getfield 13, 3) := by decide +kernel
theorem d_BF_cut_9 : decode b_BF_cut 9 = .ok (.if_icmp .le 5, 3) := by decide +kernel
theorem d_BF_cut_12 : decode b_BF_cut 12 = .ok (.iconst 0, 1) := by decide +kernel
theorem d_BF_cut_13 : decode b_BF_cut 13 = .ok (.ireturn, 1) := by decide +kernel
theorem d_BF_cut_14 : decode b_BF_cut 14 = .ok (.aload_n 0, 1) := by decide +kernel
theorem d_BF_cut_15 : decode b_BF_cut 15 = .ok (.iload_n 1, 1) := by decide +kernel
theorem d_BF_cut_16 : decode b_BF_cut 16 = .ok (.putfield 13, 3) := by decide +kernel
theorem d_BF_cut_19 : decode b_BF_cut 19 = .ok (.iconst 1, 1) := by decide +kernel
theorem d_BF_cut_20 : decode b_BF_cut 20 = .ok (.ireturn, 1) := by decide +kernel
set_option maxHeartbeats 4000000 in
set_option maxRecDepth 100000 in
theorem c_BF_cutY (l : Launch) (dC : Nat → ClassId) (dI : Nat → Nat → Nat) (o : Nat) (wa : Nat) (n : Nat) (cI : ClassId) (w : Nat → Int32) (k : Nat) (hn : n ≤ 8192) (hk : k ≤ n) : fm_MW l (dC, dI) y_BF_cut w_BF_cut ({ frames := 0, cells := 0, slots := 0, locals := 0 }) [.ref o, .int (nI (k))] [(o, .inr (0, [.ref wa, .int (nI (n))])), (wa, .inl (cI, 2048, .inl (w)))] [(o, .inr (0, [.ref wa, .int (nI (k))])), (wa, .inl (cI, 2048, .inl (w)))] [(cI, .int)] (some (.int (nI (1)))) := by
  refine Met.ofW (cc := b_BF_cut) (maxL := 2) (ret := (some .boolean)) (by decide) rfl ?_
  intro pg ev s m args below meth cd s₁ BD hml hv
  obtain ⟨rfl, hP, hK, hD0⟩ := hv
  have hx := BD.exec
  have hb := BD.bytes
  have hr := BD.returns
  have hts := atoms_spec (ws := w_BF_cut) BD.pre
  have ht : ∀ w ∈ fm_T, w.before _ s = true := fun w h => hts w (List.mem_cons_of_mem _ h)
  have hown : s.vm.findClass R_BF = some m.cls := findClass_of_methodNamed BD.named
  have hlocks := BD.notSynchronized
  have S : CallFix pg m cd b_BF_cut 2 s _ w_BF_cut R_BF := ⟨hx, hb, hml, hown, hts⟩
  have hD := fm_selfD hD0
  generalize fm_A [(o, .inr (0, [.ref wa, .int (nI (n))])), (wa, .inl (cI, 2048, .inl (w)))] = A at hD ⊢
  have hS : va_S A s.heap s.heap [] := va_S.rf
  have hl := lv_entry ([.ref o, .int (nI (k))]) (n := 2) (Nat.le_of_ble_eq_true rfl)
  rw [lg_entry_eq]
  generalize (lg_sl ([.ref o, .int (nI (k))]) ++ List.replicate (2 - (lg_sl ([.ref o, .int (nI (k))])).length) Slot.unset).toArray = ls at hl ⊢
  have hl : lv_has ls 2 [(0, .ref o), (1, .int (nI (k)))] := hl
  refine lv_iload_n hx hb d_BF_cut_0 rfl (lv_at hl 1 rfl) ?_
  refine lv_if_lt (tgt := 12) hx hb d_BF_cut_1 (by decide) (fun c0 => ?_) (fun c0 => ?_)
  · have c_1 : k < 0 := (nI_ltI (a := k) (b := 0) (by omega) (by omega)).mp c0
    exact absurd c_1 (by omega)
  · have c_1 : ¬ (k < 0) := fun z => c0 ((nI_ltI (a := k) (b := 0) (by omega) (by omega)).mpr z)
    refine lv_iload_n hx hb d_BF_cut_4 rfl (lv_at hl 1 rfl) ?_
    refine lv_aload_n hx hb d_BF_cut_5 rfl (lv_at hl 0 rfl) ?_
    refine va_get (D := (dC, dI)) (ci := 0) (v := .int (nI (n))) (C := R_BF) (T := F_BF) (N := 2) hx hb ht i_BF hown hK hP 0 rfl rfl 1 (by decide) (ht _ q_1_31) (fun _ h9 => h9) rfl d_BF_cut_6 ?_
    refine lv_icmp_le (tgt := 14) hx hb d_BF_cut_9 (by decide) (fun c0 => ?_) (fun c0 => ?_)
    · have c_9 : k ≤ n := (nI_leI (a := k) (b := n) (by omega) (by omega)).mp c0
      refine lv_aload_n hx hb d_BF_cut_14 rfl (lv_at hl 0 rfl) ?_
      refine lv_iload_n hx hb d_BF_cut_15 rfl (lv_at hl 1 rfl) ?_
      refine va_put (D := (dC, dI)) (ci := 0) (v := .int (nI (k))) (ty := .int) (C := R_BF) (T := F_BF) (N := 2) hx hb ht i_BF t_BF t_BF_ok n_BF hown hK hP hD hS 0 rfl rfl 1 (by decide) (ht _ q_1_31) (fun _ h9 => h9) rfl (by decide +kernel) (rfl) (rfl) (Nat.le_of_ble_eq_true rfl) d_BF_cut_16 (fun H locs hP hD hS => ?_)
      have hP : va_P (dC, dI) classes [(o, .inr (0, [.ref wa, .int (nI (k))])), (wa, .inl (cI, 2048, .inl (w)))] _ := hP
      have hD : va_D A [(o, .inr (0, [.ref wa, .int (nI (k))])), (wa, .inl (cI, 2048, .inl (w)))] := hD
      refine lv_iconst (v := nI (1)) hx hb d_BF_cut_19 (by decide) ?_
      exact W.zret (ty := .boolean) hx hb hr (rfl) (fun t ht hW => ⟨congrArg (fun z => Outcome.returned (some (Value.int z))) (rfl), by rw [ht]; exact hP, hS.F ht⟩) hS.2.2 d_BF_cut_20
    · have c_9 : ¬ (k ≤ n) := fun z => c0 ((nI_leI (a := k) (b := n) (by omega) (by omega)).mpr z)
      exact absurd hk c_9
set_option maxHeartbeats 4000000 in
set_option maxRecDepth 100000 in
theorem c_BF_cutN (l : Launch) (dC : Nat → ClassId) (dI : Nat → Nat → Nat) (o : Nat) (wa : Nat) (n : Nat) (cI : ClassId) (w : Nat → Int32) (x : Int32) (hn : n ≤ 8192) (hno : x < 0 ∨ nI n < x) : fm_MW l (dC, dI) y_BF_cut w_BF_cut ({ frames := 0, cells := 0, slots := 0, locals := 0 }) [.ref o, .int (x)] [(o, .inr (0, [.ref wa, .int (nI (n))])), (wa, .inl (cI, 2048, .inl (w)))] [(o, .inr (0, [.ref wa, .int (nI (n))])), (wa, .inl (cI, 2048, .inl (w)))] [(cI, .int)] (some (.int (nI (0)))) := by
  refine Met.ofW (cc := b_BF_cut) (maxL := 2) (ret := (some .boolean)) (by decide) rfl ?_
  intro pg ev s m args below meth cd s₁ BD hml hv
  obtain ⟨rfl, hP, hK, hD0⟩ := hv
  have hx := BD.exec
  have hb := BD.bytes
  have hr := BD.returns
  have hts := atoms_spec (ws := w_BF_cut) BD.pre
  have ht : ∀ w ∈ fm_T, w.before _ s = true := fun w h => hts w (List.mem_cons_of_mem _ h)
  have hown : s.vm.findClass R_BF = some m.cls := findClass_of_methodNamed BD.named
  have hlocks := BD.notSynchronized
  have S : CallFix pg m cd b_BF_cut 2 s _ w_BF_cut R_BF := ⟨hx, hb, hml, hown, hts⟩
  have hD := fm_selfD hD0
  generalize fm_A [(o, .inr (0, [.ref wa, .int (nI (n))])), (wa, .inl (cI, 2048, .inl (w)))] = A at hD ⊢
  have hS : va_S A s.heap s.heap [] := va_S.rf
  have hl := lv_entry ([.ref o, .int (x)]) (n := 2) (Nat.le_of_ble_eq_true rfl)
  rw [lg_entry_eq]
  generalize (lg_sl ([.ref o, .int (x)]) ++ List.replicate (2 - (lg_sl ([.ref o, .int (x)])).length) Slot.unset).toArray = ls at hl ⊢
  have hl : lv_has ls 2 [(0, .ref o), (1, .int (x))] := hl
  refine lv_iload_n hx hb d_BF_cut_0 rfl (lv_at hl 1 rfl) ?_
  refine lv_if_lt (tgt := 12) hx hb d_BF_cut_1 (by decide) (fun c0 => ?_) (fun c0 => ?_)
  · have c_1 := c0
    refine lv_iconst (v := nI (0)) hx hb d_BF_cut_12 (by decide) ?_
    exact W.zret (ty := .boolean) hx hb hr (rfl) (fun t ht hW => ⟨congrArg (fun z => Outcome.returned (some (Value.int z))) (rfl), by rw [ht]; exact hP, hS.F ht⟩) hS.2.2 d_BF_cut_13
  · have c_1 := c0
    refine lv_iload_n hx hb d_BF_cut_4 rfl (lv_at hl 1 rfl) ?_
    refine lv_aload_n hx hb d_BF_cut_5 rfl (lv_at hl 0 rfl) ?_
    refine va_get (D := (dC, dI)) (ci := 0) (v := .int (nI (n))) (C := R_BF) (T := F_BF) (N := 2) hx hb ht i_BF hown hK hP 0 rfl rfl 1 (by decide) (ht _ q_1_31) (fun _ h9 => h9) rfl d_BF_cut_6 ?_
    refine lv_icmp_le (tgt := 14) hx hb d_BF_cut_9 (by decide) (fun c0 => ?_) (fun c0 => ?_)
    · have c_9 := c0
      exact absurd c_9 (Int32.not_le.mpr (hno.resolve_left c_1))
    · have c_9 := c0
      refine lv_iconst (v := nI (0)) hx hb d_BF_cut_12 (by decide) ?_
      exact W.zret (ty := .boolean) hx hb hr (rfl) (fun t ht hW => ⟨congrArg (fun z => Outcome.returned (some (Value.int z))) (rfl), by rw [ht]; exact hP, hS.F ht⟩) hS.2.2 d_BF_cut_13
theorem d_BF_put_0 : decode b_BF_put 0 = .ok (.aload_n 0, 1) := by decide +kernel
theorem d_BF_put_1 : decode b_BF_put 1 = .ok (.getfield 13, 3) := by decide +kernel
theorem d_BF_put_4 : decode b_BF_put 4 = .ok (.iconst 4, 1) := by decide +kernel
theorem d_BF_put_5 : decode b_BF_put 5 = .ok (.idiv, 1) := by decide +kernel
theorem d_BF_put_6 : decode b_BF_put 6 = .ok (.istore_n 2, 1) := by decide +kernel
theorem d_BF_put_7 : decode b_BF_put 7 = .ok (.iload_n 2, 1) := by decide +kernel
theorem d_BF_put_8 : decode b_BF_put 8 = .ok (.ifCond .lt 12, 3) := by decide +kernel
theorem d_BF_put_11 : decode b_BF_put 11 = .ok (.iload_n 2, 1) := by decide +kernel
theorem d_BF_put_12 : decode b_BF_put 12 = .ok (.aload_n 0, 1) := by decide +kernel
theorem d_BF_put_13 : decode b_BF_put 13 = .ok (.getfield 9, 3) := by decide +kernel
theorem d_BF_put_16 : decode b_BF_put 16 = .ok (.arraylength, 1) := by decide +kernel
theorem d_BF_put_17 : decode b_BF_put 17 = .ok (.if_icmp .lt 4, 3) := by decide +kernel
theorem d_BF_put_20 : decode b_BF_put 20 = .ok (.return_, 1) := by decide +kernel
theorem d_BF_put_21 : decode b_BF_put 21 = .ok (.bipush 24, 2) := by decide +kernel
theorem d_BF_put_23 : decode b_BF_put 23 = .ok (.bipush 8, 2) := by decide +kernel
theorem d_BF_put_25 : decode b_BF_put 25 = .ok (.aload_n 0, 1) := by decide +kernel
theorem d_BF_put_26 : decode b_BF_put 26 = .ok (.getfield 13, 3) := by decide +kernel
theorem d_BF_put_29 : decode b_BF_put 29 = .ok (.iconst 4, 1) := by decide +kernel
theorem d_BF_put_30 : decode b_BF_put 30 = .ok (.irem, 1) := by decide +kernel
theorem d_BF_put_31 : decode b_BF_put 31 = .ok (.imul, 1) := by decide +kernel
theorem d_BF_put_32 : decode b_BF_put 32 = .ok (.isub, 1) := by decide +kernel
theorem d_BF_put_33 : decode b_BF_put 33 = .ok (.istore_n 3, 1) := by decide +kernel
theorem d_BF_put_34 : decode b_BF_put 34 = .ok (.aload_n 0, 1) := by decide +kernel
theorem d_BF_put_35 : decode b_BF_put 35 = .ok (.getfield 9, 3) := by decide +kernel
theorem d_BF_put_38 : decode b_BF_put 38 = .ok (.iload_n 2, 1) := by decide +kernel
theorem d_BF_put_39 : decode b_BF_put 39 = .ok (.aload_n 0, 1) := by decide +kernel
theorem d_BF_put_40 : decode b_BF_put 40 = .ok (.getfield 9, 3) := by decide +kernel
theorem d_BF_put_43 : decode b_BF_put 43 = .ok (.iload_n 2, 1) := by decide +kernel
theorem d_BF_put_44 : decode b_BF_put 44 = .ok (.iaload, 1) := by decide +kernel
theorem d_BF_put_45 : decode b_BF_put 45 = .ok (.sipush 255, 3) := by decide +kernel
theorem d_BF_put_48 : decode b_BF_put 48 = .ok (.iload_n 3, 1) := by decide +kernel
theorem d_BF_put_49 : decode b_BF_put 49 = .ok (.ishl, 1) := by decide +kernel
theorem d_BF_put_50 : decode b_BF_put 50 = .ok (.iconst (-1), 1) := by decide +kernel
theorem d_BF_put_51 : decode b_BF_put 51 = .ok (.ixor, 1) := by decide +kernel
theorem d_BF_put_52 : decode b_BF_put 52 = .ok (.iand, 1) := by decide +kernel
theorem d_BF_put_53 : decode b_BF_put 53 = .ok (.iload_n 1, 1) := by decide +kernel
theorem d_BF_put_54 : decode b_BF_put 54 = .ok (.iload_n 3, 1) := by decide +kernel
theorem d_BF_put_55 : decode b_BF_put 55 = .ok (.ishl, 1) := by decide +kernel
theorem d_BF_put_56 : decode b_BF_put 56 = .ok (.ior, 1) := by decide +kernel
theorem d_BF_put_57 : decode b_BF_put 57 = .ok (.iastore, 1) := by decide +kernel
theorem d_BF_put_58 : decode b_BF_put 58 = .ok (.aload_n 0, 1) := by decide +kernel
theorem d_BF_put_59 : decode b_BF_put 59 = .ok (.dup, 1) := by decide +kernel
theorem d_BF_put_60 : decode b_BF_put 60 = .ok (.getfield 13, 3) := by decide +kernel
theorem d_BF_put_63 : decode b_BF_put 63 = .ok (.iconst 1, 1) := by decide +kernel
theorem d_BF_put_64 : decode b_BF_put 64 = .ok (.iadd, 1) := by decide +kernel
theorem d_BF_put_65 : decode b_BF_put 65 = .ok (.putfield 13, 3) := by decide +kernel
theorem d_BF_put_68 : decode b_BF_put 68 = .ok (.return_, 1) := by decide +kernel
set_option maxHeartbeats 4000000 in
set_option maxRecDepth 100000 in
theorem c_BF_put (l : Launch) (dC : Nat → ClassId) (dI : Nat → Nat → Nat) (o : Nat) (wa : Nat) (n : Nat) (cI : ClassId) (w : Nat → Int32) (b : Nat) (hn : n < 8192) : fm_MW l (dC, dI) y_BF_put w_BF_put ({ frames := 0, cells := 0, slots := 0, locals := 0 }) [.ref o, .int (nI (b))] [(o, .inr (0, [.ref wa, .int (nI (n))])), (wa, .inl (cI, 2048, .inl (w)))] [(o, .inr (0, [.ref wa, .int (nI (n + 1))])), (wa, .inl (cI, 2048, .inl (fm_pu w n b)))] [(cI, .int)] none := by
  refine Met.ofW (cc := b_BF_put) (maxL := 4) (ret := none) (by decide) rfl ?_
  intro pg ev s m args below meth cd s₁ BD hml hv
  obtain ⟨rfl, hP, hK, hD0⟩ := hv
  have hx := BD.exec
  have hb := BD.bytes
  have hr := BD.returns
  have hts := atoms_spec (ws := w_BF_put) BD.pre
  have ht : ∀ w ∈ fm_T, w.before _ s = true := fun w h => hts w (List.mem_cons_of_mem _ h)
  have hown : s.vm.findClass R_BF = some m.cls := findClass_of_methodNamed BD.named
  have hlocks := BD.notSynchronized
  have S : CallFix pg m cd b_BF_put 4 s _ w_BF_put R_BF := ⟨hx, hb, hml, hown, hts⟩
  have hD := fm_selfD hD0
  generalize fm_A [(o, .inr (0, [.ref wa, .int (nI (n))])), (wa, .inl (cI, 2048, .inl (w)))] = A at hD ⊢
  have hS : va_S A s.heap s.heap [] := va_S.rf
  have hl := lv_entry ([.ref o, .int (nI (b))]) (n := 4) (Nat.le_of_ble_eq_true rfl)
  rw [lg_entry_eq]
  generalize (lg_sl ([.ref o, .int (nI (b))]) ++ List.replicate (4 - (lg_sl ([.ref o, .int (nI (b))])).length) Slot.unset).toArray = ls at hl ⊢
  have hl : lv_has ls 4 [(0, .ref o), (1, .int (nI (b)))] := hl
  refine lv_aload_n hx hb d_BF_put_0 rfl (lv_at hl 0 rfl) ?_
  refine va_get (D := (dC, dI)) (ci := 0) (v := .int (nI (n))) (C := R_BF) (T := F_BF) (N := 2) hx hb ht i_BF hown hK hP 0 rfl rfl 1 (by decide) (ht _ q_1_31) (fun _ h9 => h9) rfl d_BF_put_1 ?_
  refine lv_iconst (v := nI (4)) hx hb d_BF_put_4 (by decide) ?_
  refine lv_idiv hx hb d_BF_put_5 (by decide) ?_
  refine fm_tw (z := nI (n / 4)) (pk_div (by omega) (by omega) (by omega)) ?_
  refine lv_istore_n (lv' := [(2, .int (nI (n / 4))), (0, .ref o), (1, .int (nI (b)))]) hx hb d_BF_put_6 rfl hl (by decide) rfl (fun ls hl => ?_)
  refine lv_iload_n hx hb d_BF_put_7 rfl (lv_at hl 0 rfl) ?_
  refine lv_if_lt (tgt := 20) hx hb d_BF_put_8 (by decide) (fun c0 => ?_) (fun c0 => ?_)
  · have c_8 : n / 4 < 0 := (nI_ltI (a := n / 4) (b := 0) (by omega) (by omega)).mp c0
    exact absurd c_8 (by omega)
  · have c_8 : ¬ (n / 4 < 0) := fun z => c0 ((nI_ltI (a := n / 4) (b := 0) (by omega) (by omega)).mpr z)
    refine lv_iload_n hx hb d_BF_put_11 rfl (lv_at hl 0 rfl) ?_
    refine lv_aload_n hx hb d_BF_put_12 rfl (lv_at hl 1 rfl) ?_
    refine va_get (D := (dC, dI)) (ci := 0) (v := .ref wa) (C := R_BF) (T := F_BF) (N := 2) hx hb ht i_BF hown hK hP 0 rfl rfl 0 (by decide) (ht _ q_1_29) (fun _ h9 => h9) rfl d_BF_put_13 ?_
    refine va_alen hx hb hK hP 1 0 rfl rfl (v := nI (2048)) rfl d_BF_put_16 ?_
    refine lv_icmp_lt (tgt := 21) hx hb d_BF_put_17 (by decide) (fun c0 => ?_) (fun c0 => ?_)
    · have c_17 : n / 4 < 2048 := (nI_ltI (a := n / 4) (b := 2048) (by omega) (by omega)).mp c0
      refine lv_bipush (v := nI (24)) hx hb d_BF_put_21 (by decide) ?_
      refine lv_bipush (v := nI (8)) hx hb d_BF_put_23 (by decide) ?_
      refine lv_aload_n hx hb d_BF_put_25 rfl (lv_at hl 1 rfl) ?_
      refine va_get (D := (dC, dI)) (ci := 0) (v := .int (nI (n))) (C := R_BF) (T := F_BF) (N := 2) hx hb ht i_BF hown hK hP 0 rfl rfl 1 (by decide) (ht _ q_1_31) (fun _ h9 => h9) rfl d_BF_put_26 ?_
      refine lv_iconst (v := nI (4)) hx hb d_BF_put_29 (by decide) ?_
      refine lv_irem hx hb d_BF_put_30 (by decide) ?_
      refine fm_tw (z := nI (n % 4)) (pk_rem (by omega) (by omega) (by omega)) ?_
      refine lv_imul hx hb d_BF_put_31 ?_
      refine fm_tw (z := nI (8 * (n % 4))) (pk_mul _ _) ?_
      refine lv_isub hx hb d_BF_put_32 ?_
      refine fm_tw (z := nI (24 - (8 * (n % 4)))) (pk_sub (by omega)) ?_
      refine lv_istore_n (lv' := [(3, .int (nI (24 - (8 * (n % 4))))), (2, .int (nI (n / 4))), (0, .ref o), (1, .int (nI (b)))]) hx hb d_BF_put_33 rfl hl (by decide) rfl (fun ls hl => ?_)
      refine lv_aload_n hx hb d_BF_put_34 rfl (lv_at hl 2 rfl) ?_
      refine va_get (D := (dC, dI)) (ci := 0) (v := .ref wa) (C := R_BF) (T := F_BF) (N := 2) hx hb ht i_BF hown hK hP 0 rfl rfl 0 (by decide) (ht _ q_1_29) (fun _ h9 => h9) rfl d_BF_put_35 ?_
      refine lv_iload_n hx hb d_BF_put_38 rfl (lv_at hl 1 rfl) ?_
      refine lv_aload_n hx hb d_BF_put_39 rfl (lv_at hl 2 rfl) ?_
      refine va_get (D := (dC, dI)) (ci := 0) (v := .ref wa) (C := R_BF) (T := F_BF) (N := 2) hx hb ht i_BF hown hK hP 0 rfl rfl 0 (by decide) (ht _ q_1_29) (fun _ h9 => h9) rfl d_BF_put_40 ?_
      refine lv_iload_n hx hb d_BF_put_43 rfl (lv_at hl 1 rfl) ?_
      refine va_iald hx hb hK hP 1 0 rfl rfl (vp_in_nI (by omega) (by omega)) d_BF_put_44 ?_
      refine fm_tw (z := w (n / 4)) (by rw [nI_clamp (by omega)]) ?_
      refine lv_sipush (v := nI (255)) hx hb d_BF_put_45 (by decide) ?_
      refine lv_iload_n hx hb d_BF_put_48 rfl (lv_at hl 0 rfl) ?_
      refine lv_ishl hx hb d_BF_put_49 ?_
      refine lv_iconst (v := ((-1))) hx hb d_BF_put_50 (by decide) ?_
      refine lv_ixor hx hb d_BF_put_51 ?_
      refine lv_iand hx hb d_BF_put_52 ?_
      refine lv_iload_n hx hb d_BF_put_53 rfl (lv_at hl 3 rfl) ?_
      refine lv_iload_n hx hb d_BF_put_54 rfl (lv_at hl 0 rfl) ?_
      refine lv_ishl hx hb d_BF_put_55 ?_
      refine lv_ior hx hb d_BF_put_56 ?_
      refine va_iast hx hb hK hP hD hS 1 0 rfl rfl (vp_in_nI (by omega) (by omega)) d_BF_put_57 (fun H locs hP hD hS => ?_)
      have hP : va_P (dC, dI) classes [(o, .inr (0, [.ref wa, .int (nI (n))])), (wa, .inl (cI, 2048, .inl (upd w (nI (n / 4)).toNatClampNeg ((((w (n / 4)) &&& ((nI (255) <<< (nI (24 - (8 * (n % 4))) &&& 31)) ^^^ ((-1)))) ||| (nI (b) <<< (nI (24 - (8 * (n % 4))) &&& 31)))))))] _ := hP
      have hD : va_D A [(o, .inr (0, [.ref wa, .int (nI (n))])), (wa, .inl (cI, 2048, .inl (upd w (nI (n / 4)).toNatClampNeg ((((w (n / 4)) &&& ((nI (255) <<< (nI (24 - (8 * (n % 4))) &&& 31)) ^^^ ((-1)))) ||| (nI (b) <<< (nI (24 - (8 * (n % 4))) &&& 31)))))))] := hD
      rw [nI_clamp (show n / 4 < 2 ^ 31 by omega)] at hP hD
      have hP : va_P (dC, dI) classes [(o, .inr (0, [.ref wa, .int (nI (n))])), (wa, .inl (cI, 2048, .inl (upd w (n / 4) ((((w (n / 4)) &&& ((nI (255) <<< (nI (24 - (8 * (n % 4))) &&& 31)) ^^^ ((-1)))) ||| (nI (b) <<< (nI (24 - (8 * (n % 4))) &&& 31)))))))] _ := hP
      have hD : va_D A [(o, .inr (0, [.ref wa, .int (nI (n))])), (wa, .inl (cI, 2048, .inl (upd w (n / 4) ((((w (n / 4)) &&& ((nI (255) <<< (nI (24 - (8 * (n % 4))) &&& 31)) ^^^ ((-1)))) ||| (nI (b) <<< (nI (24 - (8 * (n % 4))) &&& 31)))))))] := hD
      refine lv_aload_n hx hb d_BF_put_58 rfl (lv_at hl 2 rfl) ?_
      refine lv_dup hx hb d_BF_put_59 rfl ?_
      refine va_get (D := (dC, dI)) (ci := 0) (v := .int (nI (n))) (C := R_BF) (T := F_BF) (N := 2) hx hb ht i_BF hown hK hP 0 rfl rfl 1 (by decide) (ht _ q_1_31) (fun _ h9 => h9) rfl d_BF_put_60 ?_
      refine lv_iconst (v := nI (1)) hx hb d_BF_put_63 (by decide) ?_
      refine lv_iadd hx hb d_BF_put_64 ?_
      refine fm_tw (z := nI (n + 1)) (nI_add _ _) ?_
      refine va_put (D := (dC, dI)) (ci := 0) (v := .int (nI (n + 1))) (ty := .int) (C := R_BF) (T := F_BF) (N := 2) hx hb ht i_BF t_BF t_BF_ok n_BF hown hK hP hD hS 0 rfl rfl 1 (by decide) (ht _ q_1_31) (fun _ h9 => h9) rfl (by decide +kernel) (rfl) (rfl) (Nat.le_of_ble_eq_true rfl) d_BF_put_65 (fun H locs hP hD hS => ?_)
      have hP : va_P (dC, dI) classes [(o, .inr (0, [.ref wa, .int (nI (n + 1))])), (wa, .inl (cI, 2048, .inl (upd w (n / 4) ((((w (n / 4)) &&& ((nI (255) <<< (nI (24 - (8 * (n % 4))) &&& 31)) ^^^ ((-1)))) ||| (nI (b) <<< (nI (24 - (8 * (n % 4))) &&& 31)))))))] _ := hP
      have hD : va_D A [(o, .inr (0, [.ref wa, .int (nI (n + 1))])), (wa, .inl (cI, 2048, .inl (upd w (n / 4) ((((w (n / 4)) &&& ((nI (255) <<< (nI (24 - (8 * (n % 4))) &&& 31)) ^^^ ((-1)))) ||| (nI (b) <<< (nI (24 - (8 * (n % 4))) &&& 31)))))))] := hD
      exact W.vret hx hb hr (fun t ht hW => ⟨rfl, by rw [ht]; exact hP, hS.F ht⟩) hS.2.2 d_BF_put_68
    · have c_17 : ¬ (n / 4 < 2048) := fun z => c0 ((nI_ltI (a := n / 4) (b := 2048) (by omega) (by omega)).mpr z)
      exact absurd (show n / 4 < 2048 by omega) c_17
theorem d_BF_append_0 : decode b_BF_append 0 = .ok (.iload_n 3, 1) := by decide +kernel
theorem d_BF_append_1 : decode b_BF_append 1 = .ok (.iconst 1, 1) := by decide +kernel
theorem d_BF_append_2 : decode b_BF_append 2 = .ok (.if_icmp .lt 21, 3) := by decide +kernel
theorem d_BF_append_5 : decode b_BF_append 5 = .ok (.iload_n 3, 1) := by decide +kernel
theorem d_BF_append_6 : decode b_BF_append 6 = .ok (.bipush 8, 2) := by decide +kernel
theorem d_BF_append_8 : decode b_BF_append 8 = .ok (.if_icmp .gt 15, 3) := by decide +kernel
theorem d_BF_append_11 : decode b_BF_append 11 = .ok (.aload_n 0, 1) := by decide +kernel
theorem d_BF_append_12 : decode b_BF_append 12 = .ok (.getfield 13, 3) := by decide +kernel
theorem d_BF_append_15 : decode b_BF_append 15 = .ok (.iload_n 3, 1) := by decide +kernel
theorem d_BF_append_16 : decode b_BF_append 16 = .ok (.iadd, 1) := by decide +kernel
theorem d_BF_append_17 : decode b_BF_append 17 = .ok (.sipush 8192, 3) := by decide +kernel
theorem d_BF_append_20 : decode b_BF_append 20 = .ok (.if_icmp .le 5, 3) := by decide +kernel
theorem d_BF_append_23 : decode b_BF_append 23 = .ok (.iconst 0, 1) := by decide +kernel
theorem d_BF_append_24 : decode b_BF_append 24 = .ok (.ireturn, 1) := by decide +kernel
theorem d_BF_append_25 : decode b_BF_append 25 = .ok (.iload_n 3, 1) := by decide +kernel
theorem d_BF_append_26 : decode b_BF_append 26 = .ok (.iconst 1, 1) := by decide +kernel
theorem d_BF_append_27 : decode b_BF_append 27 = .ok (.isub, 1) := by decide +kernel
theorem d_BF_append_28 : decode b_BF_append 28 = .ok (.istore 4, 2) := by decide +kernel
theorem d_BF_append_30 : decode b_BF_append 30 = .ok (.iload 4, 2) := by decide +kernel
theorem d_BF_append_32 : decode b_BF_append 32 = .ok (.ifCond .lt 25, 3) := by decide +kernel
theorem d_BF_append_35 : decode b_BF_append 35 = .ok (.aload_n 0, 1) := by decide +kernel
theorem d_BF_append_36 : decode b_BF_append 36 = .ok (.lload_n 1, 1) := by decide +kernel
theorem d_BF_append_37 : decode b_BF_append 37 = .ok (.bipush 8, 2) := by decide +kernel
theorem d_BF_append_39 : decode b_BF_append 39 = .ok (.iload 4, 2) := by decide +kernel
theorem d_BF_append_41 : decode b_BF_append 41 = .ok (.imul, 1) := by decide +kernel
theorem d_BF_append_42 : decode b_BF_append 42 = .ok (.lushr, 1) := by decide +kernel
theorem d_BF_append_43 : decode b_BF_append 43 = .ok (.l2i, 1) := by decide +kernel
theorem d_BF_append_44 : decode b_BF_append 44 = .ok (.sipush 255, 3) := by decide +kernel
theorem d_BF_append_47 : decode b_BF_append 47 = .ok (.iand, 1) := by decide +kernel
theorem d_BF_append_48 : decode b_BF_append 48 = .ok (.invokevirtual 17, 3) := by decide +kernel
theorem d_BF_append_51 : decode b_BF_append 51 = .ok (.iinc 4 (-1), 3) := by decide +kernel
theorem d_BF_append_54 : decode b_BF_append 54 = .ok (.goto (-24), 3) := by decide +kernel
theorem d_BF_append_57 : decode b_BF_append 57 = .ok (.iconst 1, 1) := by decide +kernel
theorem d_BF_append_58 : decode b_BF_append 58 = .ok (.ireturn, 1) := by decide +kernel
set_option maxHeartbeats 4000000 in
set_option maxRecDepth 100000 in
theorem c_BF_appendY (l : Launch) (dC : Nat → ClassId) (dI : Nat → Nat → Nat) (o : Nat) (wa : Nat) (n : Nat) (cI : ClassId) (w : Nat → Int32) (X : Int64) (k : Nat) (hn : n + k ≤ 8192) (hk0 : 0 < k) (hk8 : k ≤ 8) : fm_MW l (dC, dI) y_BF_append w_BF_append ({ frames := 1, cells := 0, slots := 0, locals := 23 }) [.ref o, .long (X), .int (nI (k))] [(o, .inr (0, [.ref wa, .int (nI (n))])), (wa, .inl (cI, 2048, .inl (w)))] [(o, .inr (0, [.ref wa, .int (nI (n + k))])), (wa, .inl (cI, 2048, .inl (fm_app w n X k)))] [(cI, .int)] (some (.int (nI (1)))) := by
  refine Met.ofW (cc := b_BF_append) (maxL := 5) (ret := (some .boolean)) (by decide) rfl ?_
  intro pg ev s m args below meth cd s₁ BD hml hv
  obtain ⟨rfl, hP, hK, hD0⟩ := hv
  have hx := BD.exec
  have hb := BD.bytes
  have hr := BD.returns
  have hts := atoms_spec (ws := w_BF_append) BD.pre
  have ht : ∀ w ∈ fm_T, w.before _ s = true := fun w h => hts w (List.mem_cons_of_mem _ h)
  have hown : s.vm.findClass R_BF = some m.cls := findClass_of_methodNamed BD.named
  have hlocks := BD.notSynchronized
  have S : CallFix pg m cd b_BF_append 5 s _ w_BF_append R_BF := ⟨hx, hb, hml, hown, hts⟩
  have hD := fm_selfD hD0
  generalize fm_A [(o, .inr (0, [.ref wa, .int (nI (n))])), (wa, .inl (cI, 2048, .inl (w)))] = A at hD ⊢
  have hS : va_S A s.heap s.heap [] := va_S.rf
  have hl := lv_entry ([.ref o, .long (X), .int (nI (k))]) (n := 5) (Nat.le_of_ble_eq_true rfl)
  rw [lg_entry_eq]
  generalize (lg_sl ([.ref o, .long (X), .int (nI (k))]) ++ List.replicate (5 - (lg_sl ([.ref o, .long (X), .int (nI (k))])).length) Slot.unset).toArray = ls at hl ⊢
  have hl : lv_has ls 5 [(0, .ref o), (1, .long (X)), (3, .int (nI (k)))] := hl
  refine lv_iload_n hx hb d_BF_append_0 rfl (lv_at hl 2 rfl) ?_
  refine lv_iconst (v := nI (1)) hx hb d_BF_append_1 (by decide) ?_
  refine lv_icmp_lt (tgt := 23) hx hb d_BF_append_2 (by decide) (fun c0 => ?_) (fun c0 => ?_)
  · have c_2 : k < 1 := (nI_ltI (a := k) (b := 1) (by omega) (by omega)).mp c0
    exact absurd c_2 (by omega)
  · have c_2 : ¬ (k < 1) := fun z => c0 ((nI_ltI (a := k) (b := 1) (by omega) (by omega)).mpr z)
    refine lv_iload_n hx hb d_BF_append_5 rfl (lv_at hl 2 rfl) ?_
    refine lv_bipush (v := nI (8)) hx hb d_BF_append_6 (by decide) ?_
    refine lv_icmp_gt (tgt := 23) hx hb d_BF_append_8 (by decide) (fun c0 => ?_) (fun c0 => ?_)
    · have c_8 : 8 < k := (nI_ltI (a := 8) (b := k) (by omega) (by omega)).mp c0
      exact absurd c_8 (by omega)
    · have c_8 : ¬ (8 < k) := fun z => c0 ((nI_ltI (a := 8) (b := k) (by omega) (by omega)).mpr z)
      refine lv_aload_n hx hb d_BF_append_11 rfl (lv_at hl 0 rfl) ?_
      refine va_get (D := (dC, dI)) (ci := 0) (v := .int (nI (n))) (C := R_BF) (T := F_BF) (N := 2) hx hb ht i_BF hown hK hP 0 rfl rfl 1 (by decide) (ht _ q_1_31) (fun _ h9 => h9) rfl d_BF_append_12 ?_
      refine lv_iload_n hx hb d_BF_append_15 rfl (lv_at hl 2 rfl) ?_
      refine lv_iadd hx hb d_BF_append_16 ?_
      refine fm_tw (z := nI (n + k)) (nI_add _ _) ?_
      refine lv_sipush (v := nI (8192)) hx hb d_BF_append_17 (by decide) ?_
      refine lv_icmp_le (tgt := 25) hx hb d_BF_append_20 (by decide) (fun c0 => ?_) (fun c0 => ?_)
      · have c_20 : n + k ≤ 8192 := (nI_leI (a := n + k) (b := 8192) (by omega) (by omega)).mp c0
        refine lv_iload_n hx hb d_BF_append_25 rfl (lv_at hl 2 rfl) ?_
        refine lv_iconst (v := nI (1)) hx hb d_BF_append_26 (by decide) ?_
        refine lv_isub hx hb d_BF_append_27 ?_
        refine fm_tw (z := (nI k - nI 1)) (rfl) ?_
        refine lv_istore (lv' := [(4, .int (nI k - nI 1)), (0, .ref o), (1, .long (X)), (3, .int (nI (k)))]) hx hb d_BF_append_28 hl (by decide) rfl (fun ls hl => ?_)
        refine fm_wloop3 (nL := 5) (LV := fun (j : Nat) (n2 : Nat) (w2 : Nat → Int32) => [(0, .ref o), (1, .long (X)), (4, .int (nI j - nI 1))]) (WS := fun (j : Nat) (n2 : Nat) (w2 : Nat → Int32) => [(o, .inr (0, [.ref wa, .int (nI (n2))])), (wa, .inl (cI, 2048, .inl (w2)))]) (I := fun (j : Nat) (n2 : Nat) (w2 : Nat → Int32) => j ≤ 8 ∧ n2 + j = n + k ∧ fm_app w2 n2 X j = fm_app w n X k) (μ := fun (j : Nat) (n2 : Nat) (w2 : Nat → Int32) => j) ?_ k n w (⟨hk8, rfl, rfl⟩) hP hD hS ls (lv_sub hl [1, 2, 0] rfl)
        intro j n2 w2 hI_30 ih_30 H locs ls hP hD hS hl
        have hl : lv_has ls 5 [(0, .ref o), (1, .long (X)), (4, .int (nI j - nI 1))] := hl
        have hP : va_P (dC, dI) classes [(o, .inr (0, [.ref wa, .int (nI (n2))])), (wa, .inl (cI, 2048, .inl (w2)))] _ := hP
        have hD : va_D A [(o, .inr (0, [.ref wa, .int (nI (n2))])), (wa, .inl (cI, 2048, .inl (w2)))] := hD
        obtain ⟨hj8, hnj, happ⟩ := hI_30
        refine lv_iload hx hb d_BF_append_30 (lv_at hl 2 rfl) ?_
        refine lv_if_lt (tgt := 57) hx hb d_BF_append_32 (by decide) (fun c0 => ?_) (fun c0 => ?_)
        · have c_32 := c0
          have hj0 : j = 0 := by
            rcases j with _ | j2
            · rfl
            · exact absurd (show nI j2 < 0 by rw [← nI_pred j2]; exact c_32) (nI_pos (by omega))
          subst hj0
          refine lv_iconst (v := nI (1)) hx hb d_BF_append_57 (by decide) ?_
          exact W.zret (ty := .boolean) hx hb hr (rfl) (fun t ht hW => ⟨congrArg (fun z => Outcome.returned (some (Value.int z))) (rfl), by rw [ht]; exact by rw [← happ, ← hnj]; exact hP, hS.F ht⟩) hS.2.2 d_BF_append_58
        · have c_32 := c0
          obtain ⟨j2, rfl⟩ : ∃ q, j = q + 1 := by
            rcases j with _ | j2
            · exact absurd (by decide) c_32
            · exact ⟨j2, rfl⟩
          have hl : lv_has ls 5 [(0, .ref o), (1, .long (X)), (4, .int (nI (j2)))] := by rw [show ((nI (j2 + 1) - nI 1) : Int32) = nI (j2) from nI_pred j2] at hl; exact hl
          refine lv_aload_n hx hb d_BF_append_35 rfl (lv_at hl 0 rfl) ?_
          refine lv_lload_n hx hb d_BF_append_36 rfl (lv_at hl 1 rfl) ?_
          refine lv_bipush (v := nI (8)) hx hb d_BF_append_37 (by decide) ?_
          refine lv_iload hx hb d_BF_append_39 (lv_at hl 2 rfl) ?_
          refine lv_imul hx hb d_BF_append_41 ?_
          refine fm_tw (z := nI (8 * j2)) (pk_mul _ _) ?_
          refine lv_lushr hx hb d_BF_append_42 rfl ?_
          refine lv_l2i hx hb d_BF_append_43 rfl ?_
          refine lv_sipush (v := nI (255)) hx hb d_BF_append_44 (by decide) ?_
          refine lv_iand hx hb d_BF_append_47 ?_
          refine fm_tw (z := nI (fm_lb X j2)) (fm_lbI X (by omega)) ?_
          have hlb := fm_lb_lt X j2
          refine fm_wv S (c_BF_put l dC dI o wa n2 cI w2 (fm_lb X j2) (by omega)) rfl rfl k_BF_put q_1_129 ⟨Nat.le_of_ble_eq_true rfl, Nat.le_of_ble_eq_true rfl⟩ hP hD hS (hK.sub [0] rfl) [0, 1] (by decide) rfl 0 rfl rfl rfl hl.1 rfl (Nat.le_of_ble_eq_true rfl) ⟨Nat.zero_le _, Nat.zero_le _⟩ d_BF_append_48 [(o, .inr (0, [.ref wa, .int (nI (n2 + 1))])), (wa, .inl (cI, 2048, .inl (fm_pu w2 n2 (fm_lb X j2))))] [] rfl rfl (show ∀ i, i < 2 → i ∈ ([0, 1] : List Nat) ∨ i ∈ ([] : List Nat) by decide) (by decide) rfl (fun H locs hP hD hS => ?_)
          have hP : va_P (dC, dI) classes [(o, .inr (0, [.ref wa, .int (nI (n2 + 1))])), (wa, .inl (cI, 2048, .inl (fm_pu w2 n2 (fm_lb X j2))))] _ := hP
          have hD : va_D A [(o, .inr (0, [.ref wa, .int (nI (n2 + 1))])), (wa, .inl (cI, 2048, .inl (fm_pu w2 n2 (fm_lb X j2))))] := hD
          refine lv_iinc (v := (nI (j2) - nI 1)) (lv' := [(4, .int (nI (j2) - nI 1)), (0, .ref o), (1, .long (X))]) hx hb d_BF_append_51 hl (k := 2) rfl (fm_m1 _) (by decide) rfl (fun ls hl => ?_)
          refine lv_goto (tgt := 30) hx hb d_BF_append_54 (by decide) ?_
          exact ih_30 j2 (n2 + 1) (fm_pu w2 n2 (fm_lb X j2)) H locs ls (⟨by omega, by omega, happ⟩) (by omega) hP hD hS (lv_sub hl [1, 2, 0] rfl)
      · have c_20 : ¬ (n + k ≤ 8192) := fun z => c0 ((nI_leI (a := n + k) (b := 8192) (by omega) (by omega)).mpr z)
        exact absurd hn c_20
set_option maxHeartbeats 4000000 in
set_option maxRecDepth 100000 in
theorem c_BF_appendN (l : Launch) (dC : Nat → ClassId) (dI : Nat → Nat → Nat) (o : Nat) (wa : Nat) (n : Nat) (cI : ClassId) (w : Nat → Int32) (X : Int64) (x : Int32) (hn : n ≤ 8192) (hno : ∀ k : Nat, x = nI k → 0 < k → k ≤ 8 → ¬ n + k ≤ 8192) : fm_MW l (dC, dI) y_BF_append w_BF_append ({ frames := 0, cells := 0, slots := 0, locals := 0 }) [.ref o, .long (X), .int (x)] [(o, .inr (0, [.ref wa, .int (nI (n))])), (wa, .inl (cI, 2048, .inl (w)))] [(o, .inr (0, [.ref wa, .int (nI (n))])), (wa, .inl (cI, 2048, .inl (w)))] [(cI, .int)] (some (.int (nI (0)))) := by
  refine Met.ofW (cc := b_BF_append) (maxL := 5) (ret := (some .boolean)) (by decide) rfl ?_
  intro pg ev s m args below meth cd s₁ BD hml hv
  obtain ⟨rfl, hP, hK, hD0⟩ := hv
  have hx := BD.exec
  have hb := BD.bytes
  have hr := BD.returns
  have hts := atoms_spec (ws := w_BF_append) BD.pre
  have ht : ∀ w ∈ fm_T, w.before _ s = true := fun w h => hts w (List.mem_cons_of_mem _ h)
  have hown : s.vm.findClass R_BF = some m.cls := findClass_of_methodNamed BD.named
  have hlocks := BD.notSynchronized
  have S : CallFix pg m cd b_BF_append 5 s _ w_BF_append R_BF := ⟨hx, hb, hml, hown, hts⟩
  have hD := fm_selfD hD0
  generalize fm_A [(o, .inr (0, [.ref wa, .int (nI (n))])), (wa, .inl (cI, 2048, .inl (w)))] = A at hD ⊢
  have hS : va_S A s.heap s.heap [] := va_S.rf
  have hl := lv_entry ([.ref o, .long (X), .int (x)]) (n := 5) (Nat.le_of_ble_eq_true rfl)
  rw [lg_entry_eq]
  generalize (lg_sl ([.ref o, .long (X), .int (x)]) ++ List.replicate (5 - (lg_sl ([.ref o, .long (X), .int (x)])).length) Slot.unset).toArray = ls at hl ⊢
  have hl : lv_has ls 5 [(0, .ref o), (1, .long (X)), (3, .int (x))] := hl
  refine lv_iload_n hx hb d_BF_append_0 rfl (lv_at hl 2 rfl) ?_
  refine lv_iconst (v := nI (1)) hx hb d_BF_append_1 (by decide) ?_
  refine lv_icmp_lt (tgt := 23) hx hb d_BF_append_2 (by decide) (fun c0 => ?_) (fun c0 => ?_)
  · have c_2 := c0
    refine lv_iconst (v := nI (0)) hx hb d_BF_append_23 (by decide) ?_
    exact W.zret (ty := .boolean) hx hb hr (rfl) (fun t ht hW => ⟨congrArg (fun z => Outcome.returned (some (Value.int z))) (rfl), by rw [ht]; exact hP, hS.F ht⟩) hS.2.2 d_BF_append_24
  · have c_2 := c0
    refine lv_iload_n hx hb d_BF_append_5 rfl (lv_at hl 2 rfl) ?_
    refine lv_bipush (v := nI (8)) hx hb d_BF_append_6 (by decide) ?_
    refine lv_icmp_gt (tgt := 23) hx hb d_BF_append_8 (by decide) (fun c0 => ?_) (fun c0 => ?_)
    · have c_8 := c0
      refine lv_iconst (v := nI (0)) hx hb d_BF_append_23 (by decide) ?_
      exact W.zret (ty := .boolean) hx hb hr (rfl) (fun t ht hW => ⟨congrArg (fun z => Outcome.returned (some (Value.int z))) (rfl), by rw [ht]; exact hP, hS.F ht⟩) hS.2.2 d_BF_append_24
    · have c_8 := c0
      obtain ⟨k, hk31, hk1, rfl⟩ := fm_ge (show 1 < 2 ^ 31 by decide) c_2
      have hk8 : k ≤ 8 := Nat.le_of_not_lt (fun z => c_8 ((nI_ltI (by decide) hk31).mpr z))
      refine lv_aload_n hx hb d_BF_append_11 rfl (lv_at hl 0 rfl) ?_
      refine va_get (D := (dC, dI)) (ci := 0) (v := .int (nI (n))) (C := R_BF) (T := F_BF) (N := 2) hx hb ht i_BF hown hK hP 0 rfl rfl 1 (by decide) (ht _ q_1_31) (fun _ h9 => h9) rfl d_BF_append_12 ?_
      refine lv_iload_n hx hb d_BF_append_15 rfl (lv_at hl 2 rfl) ?_
      refine lv_iadd hx hb d_BF_append_16 ?_
      refine fm_tw (z := nI (n + k)) (nI_add _ _) ?_
      refine lv_sipush (v := nI (8192)) hx hb d_BF_append_17 (by decide) ?_
      refine lv_icmp_le (tgt := 25) hx hb d_BF_append_20 (by decide) (fun c0 => ?_) (fun c0 => ?_)
      · have c_20 : n + k ≤ 8192 := (nI_leI (a := n + k) (b := 8192) (by omega) (by omega)).mp c0
        exact absurd c_20 (hno k rfl hk1 hk8)
      · have c_20 : ¬ (n + k ≤ 8192) := fun z => c0 ((nI_leI (a := n + k) (b := 8192) (by omega) (by omega)).mpr z)
        refine lv_iconst (v := nI (0)) hx hb d_BF_append_23 (by decide) ?_
        exact W.zret (ty := .boolean) hx hb hr (rfl) (fun t ht hW => ⟨congrArg (fun z => Outcome.returned (some (Value.int z))) (rfl), by rw [ht]; exact hP, hS.F ht⟩) hS.2.2 d_BF_append_24
