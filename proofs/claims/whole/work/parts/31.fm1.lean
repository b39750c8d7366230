theorem d_FM_feed_0 : decode b_FM_feed 0 = .ok (.aload_n 0, 1) := by decide +kernel
theorem d_FM_feed_1 : decode b_FM_feed 1 = .ok (.getfield 10, 3) := by decide +kernel
theorem d_FM_feed_4 : decode b_FM_feed 4 = .ok (.lload_n 1, 1) := by decide +kernel
theorem d_FM_feed_5 : decode b_FM_feed 5 = .ok (.iload_n 3, 1) := by decide +kernel
theorem d_FM_feed_6 : decode b_FM_feed 6 = .ok (.invokevirtual 45, 3) := by decide +kernel
theorem d_FM_feed_9 : decode b_FM_feed 9 = .ok (.ireturn, 1) := by decide +kernel
set_option maxHeartbeats 4000000 in
set_option maxRecDepth 100000 in
theorem c_FM_feedY (l : Launch) (dC : Nat → ClassId) (dI : Nat → Nat → Nat) (h : Nat) (bf : Nat) (li : Nat) (ra : Nat) (rl : Int32) (o : Nat) (sp : Nat) (ld : Int32) (ba : Nat) (n : Nat) (cI : ClassId) (b : Nat → Int32) (X : Int64) (k : Nat) (hn : n + k ≤ 8192) (hk0 : 0 < k) (hk8 : k ≤ 8) : fm_MW l (dC, dI) y_FM_feed w_FM_feed ({ frames := 2, cells := 0, slots := 0, locals := 47 }) [.ref h, .long (X), .int (nI (k))] [(h, .inr (3, [.ref bf, .ref li, .ref ra, .int (rl), .ref o, .ref sp, .int (ld)])), (bf, .inr (0, [.ref ba, .int (nI (n))])), (ba, .inl (cI, 2048, .inl (b)))] [(h, .inr (3, [.ref bf, .ref li, .ref ra, .int (rl), .ref o, .ref sp, .int (ld)])), (bf, .inr (0, [.ref ba, .int (nI (n + k))])), (ba, .inl (cI, 2048, .inl (fm_app b n X k)))] [(cI, .int)] (some (.int (nI (1)))) := by
  refine Met.ofW (cc := b_FM_feed) (maxL := 4) (ret := (some .boolean)) (by decide) rfl ?_
  intro pg ev s m args below meth cd s₁ BD hml hv
  obtain ⟨rfl, hP, hK, hD0⟩ := hv
  have hx := BD.exec
  have hb := BD.bytes
  have hr := BD.returns
  have hts := atoms_spec (ws := w_FM_feed) BD.pre
  have ht : ∀ w ∈ fm_T, w.before _ s = true := fun w h => hts w (List.mem_cons_of_mem _ h)
  have hown : s.vm.findClass R_FM = some m.cls := findClass_of_methodNamed BD.named
  have hlocks := BD.notSynchronized
  have S : CallFix pg m cd b_FM_feed 4 s _ w_FM_feed R_FM := ⟨hx, hb, hml, hown, hts⟩
  have hD := fm_selfD hD0
  generalize fm_A [(h, .inr (3, [.ref bf, .ref li, .ref ra, .int (rl), .ref o, .ref sp, .int (ld)])), (bf, .inr (0, [.ref ba, .int (nI (n))])), (ba, .inl (cI, 2048, .inl (b)))] = A at hD ⊢
  have hS : va_S A s.heap s.heap [] := va_S.rf
  have hl := lv_entry ([.ref h, .long (X), .int (nI (k))]) (n := 4) (Nat.le_of_ble_eq_true rfl)
  rw [lg_entry_eq]
  generalize (lg_sl ([.ref h, .long (X), .int (nI (k))]) ++ List.replicate (4 - (lg_sl ([.ref h, .long (X), .int (nI (k))])).length) Slot.unset).toArray = ls at hl ⊢
  have hl : lv_has ls 4 [(0, .ref h), (1, .long (X)), (3, .int (nI (k)))] := hl
  refine lv_aload_n hx hb d_FM_feed_0 rfl (lv_at hl 0 rfl) ?_
  refine va_get (D := (dC, dI)) (ci := 3) (v := .ref bf) (C := R_FM) (T := F_FM) (N := 7) hx hb ht i_FM hown hK hP 0 rfl rfl 0 (by decide) (ht _ q_1_99) (fun _ h9 => h9) rfl d_FM_feed_1 ?_
  refine lv_lload_n hx hb d_FM_feed_4 rfl (lv_at hl 1 rfl) ?_
  refine lv_iload_n hx hb d_FM_feed_5 rfl (lv_at hl 2 rfl) ?_
  refine fm_wv S (c_BF_appendY l dC dI bf ba n cI b X k (by omega) (by omega) (by omega)) rfl rfl k_BF_append q_1_125 ⟨Nat.le_of_ble_eq_true rfl, Nat.le_of_ble_eq_true rfl⟩ hP hD hS (hK.sub [0] rfl) [1, 2] (by decide) rfl 0 rfl rfl rfl hl.1 rfl (Nat.le_of_ble_eq_true rfl) ⟨Nat.zero_le _, Nat.zero_le _⟩ d_FM_feed_6 [(h, .inr (3, [.ref bf, .ref li, .ref ra, .int (rl), .ref o, .ref sp, .int (ld)])), (bf, .inr (0, [.ref ba, .int (nI (n + k))])), (ba, .inl (cI, 2048, .inl (fm_app b n X k)))] [0] rfl rfl (show ∀ i, i < 3 → i ∈ ([1, 2] : List Nat) ∨ i ∈ ([0] : List Nat) by decide) (by decide) rfl (fun H locs hP hD hS => ?_)
  have hP : va_P (dC, dI) classes [(h, .inr (3, [.ref bf, .ref li, .ref ra, .int (rl), .ref o, .ref sp, .int (ld)])), (bf, .inr (0, [.ref ba, .int (nI (n + k))])), (ba, .inl (cI, 2048, .inl (fm_app b n X k)))] _ := hP
  have hD : va_D A [(h, .inr (3, [.ref bf, .ref li, .ref ra, .int (rl), .ref o, .ref sp, .int (ld)])), (bf, .inr (0, [.ref ba, .int (nI (n + k))])), (ba, .inl (cI, 2048, .inl (fm_app b n X k)))] := hD
  exact W.zret (ty := .boolean) hx hb hr (rfl) (fun t ht hW => ⟨congrArg (fun z => Outcome.returned (some (Value.int z))) (rfl), by rw [ht]; exact hP, hS.F ht⟩) hS.2.2 d_FM_feed_9
set_option maxHeartbeats 4000000 in
set_option maxRecDepth 100000 in
theorem c_FM_feedN (l : Launch) (dC : Nat → ClassId) (dI : Nat → Nat → Nat) (h : Nat) (bf : Nat) (li : Nat) (ra : Nat) (rl : Int32) (o : Nat) (sp : Nat) (ld : Int32) (ba : Nat) (n : Nat) (cI : ClassId) (b : Nat → Int32) (X : Int64) (x : Int32) (hn : n ≤ 8192) (hno : ∀ k : Nat, x = nI k → 0 < k → k ≤ 8 → ¬ n + k ≤ 8192) : fm_MW l (dC, dI) y_FM_feed w_FM_feed ({ frames := 1, cells := 0, slots := 0, locals := 24 }) [.ref h, .long (X), .int (x)] [(h, .inr (3, [.ref bf, .ref li, .ref ra, .int (rl), .ref o, .ref sp, .int (ld)])), (bf, .inr (0, [.ref ba, .int (nI (n))])), (ba, .inl (cI, 2048, .inl (b)))] [(h, .inr (3, [.ref bf, .ref li, .ref ra, .int (rl), .ref o, .ref sp, .int (ld)])), (bf, .inr (0, [.ref ba, .int (nI (n))])), (ba, .inl (cI, 2048, .inl (b)))] [(cI, .int)] (some (.int (nI (0)))) := by
  refine Met.ofW (cc := b_FM_feed) (maxL := 4) (ret := (some .boolean)) (by decide) rfl ?_
  intro pg ev s m args below meth cd s₁ BD hml hv
  obtain ⟨rfl, hP, hK, hD0⟩ := hv
  have hx := BD.exec
  have hb := BD.bytes
  have hr := BD.returns
  have hts := atoms_spec (ws := w_FM_feed) BD.pre
  have ht : ∀ w ∈ fm_T, w.before _ s = true := fun w h => hts w (List.mem_cons_of_mem _ h)
  have hown : s.vm.findClass R_FM = some m.cls := findClass_of_methodNamed BD.named
  have hlocks := BD.notSynchronized
  have S : CallFix pg m cd b_FM_feed 4 s _ w_FM_feed R_FM := ⟨hx, hb, hml, hown, hts⟩
  have hD := fm_selfD hD0
  generalize fm_A [(h, .inr (3, [.ref bf, .ref li, .ref ra, .int (rl), .ref o, .ref sp, .int (ld)])), (bf, .inr (0, [.ref ba, .int (nI (n))])), (ba, .inl (cI, 2048, .inl (b)))] = A at hD ⊢
  have hS : va_S A s.heap s.heap [] := va_S.rf
  have hl := lv_entry ([.ref h, .long (X), .int (x)]) (n := 4) (Nat.le_of_ble_eq_true rfl)
  rw [lg_entry_eq]
  generalize (lg_sl ([.ref h, .long (X), .int (x)]) ++ List.replicate (4 - (lg_sl ([.ref h, .long (X), .int (x)])).length) Slot.unset).toArray = ls at hl ⊢
  have hl : lv_has ls 4 [(0, .ref h), (1, .long (X)), (3, .int (x))] := hl
  refine lv_aload_n hx hb d_FM_feed_0 rfl (lv_at hl 0 rfl) ?_
  refine va_get (D := (dC, dI)) (ci := 3) (v := .ref bf) (C := R_FM) (T := F_FM) (N := 7) hx hb ht i_FM hown hK hP 0 rfl rfl 0 (by decide) (ht _ q_1_99) (fun _ h9 => h9) rfl d_FM_feed_1 ?_
  refine lv_lload_n hx hb d_FM_feed_4 rfl (lv_at hl 1 rfl) ?_
  refine lv_iload_n hx hb d_FM_feed_5 rfl (lv_at hl 2 rfl) ?_
  refine fm_wv S (c_BF_appendN l dC dI bf ba n cI b X x (by omega) (hno)) rfl rfl k_BF_append q_1_125 ⟨Nat.le_of_ble_eq_true rfl, Nat.le_of_ble_eq_true rfl⟩ hP hD hS (hK.sub [0] rfl) [1, 2] (by decide) rfl 0 rfl rfl rfl hl.1 rfl (Nat.le_of_ble_eq_true rfl) ⟨Nat.zero_le _, Nat.zero_le _⟩ d_FM_feed_6 [(h, .inr (3, [.ref bf, .ref li, .ref ra, .int (rl), .ref o, .ref sp, .int (ld)])), (bf, .inr (0, [.ref ba, .int (nI (n))])), (ba, .inl (cI, 2048, .inl (b)))] [0] rfl rfl (show ∀ i, i < 3 → i ∈ ([1, 2] : List Nat) ∨ i ∈ ([0] : List Nat) by decide) (by decide) rfl (fun H locs hP hD hS => ?_)
  have hP : va_P (dC, dI) classes [(h, .inr (3, [.ref bf, .ref li, .ref ra, .int (rl), .ref o, .ref sp, .int (ld)])), (bf, .inr (0, [.ref ba, .int (nI (n))])), (ba, .inl (cI, 2048, .inl (b)))] _ := hP
  have hD : va_D A [(h, .inr (3, [.ref bf, .ref li, .ref ra, .int (rl), .ref o, .ref sp, .int (ld)])), (bf, .inr (0, [.ref ba, .int (nI (n))])), (ba, .inl (cI, 2048, .inl (b)))] := hD
  exact W.zret (ty := .boolean) hx hb hr (rfl) (fun t ht hW => ⟨congrArg (fun z => Outcome.returned (some (Value.int z))) (rfl), by rw [ht]; exact hP, hS.F ht⟩) hS.2.2 d_FM_feed_9
theorem d_FM_keep_0 : decode b_FM_keep 0 = .ok (.aload_n 0, 1) := by decide +kernel
theorem d_FM_keep_1 : decode b_FM_keep 1 = .ok (.getfield 10, 3) := by decide +kernel
theorem d_FM_keep_4 : decode b_FM_keep 4 = .ok (.iload_n 1, 1) := by decide +kernel
theorem d_FM_keep_5 : decode b_FM_keep 5 = .ok (.invokevirtual 49, 3) := by decide +kernel
theorem d_FM_keep_8 : decode b_FM_keep 8 = .ok (.ireturn, 1) := by decide +kernel
set_option maxHeartbeats 4000000 in
set_option maxRecDepth 100000 in
theorem c_FM_keepY (l : Launch) (dC : Nat → ClassId) (dI : Nat → Nat → Nat) (h : Nat) (bf : Nat) (li : Nat) (ra : Nat) (rl : Int32) (o : Nat) (sp : Nat) (ld : Int32) (ba : Nat) (n : Nat) (cI : ClassId) (b : Nat → Int32) (k : Nat) (hn : n ≤ 8192) (hk : k ≤ n) : fm_MW l (dC, dI) y_FM_keep w_FM_keep ({ frames := 1, cells := 0, slots := 0, locals := 21 }) [.ref h, .int (nI (k))] [(h, .inr (3, [.ref bf, .ref li, .ref ra, .int (rl), .ref o, .ref sp, .int (ld)])), (bf, .inr (0, [.ref ba, .int (nI (n))])), (ba, .inl (cI, 2048, .inl (b)))] [(h, .inr (3, [.ref bf, .ref li, .ref ra, .int (rl), .ref o, .ref sp, .int (ld)])), (bf, .inr (0, [.ref ba, .int (nI (k))])), (ba, .inl (cI, 2048, .inl (b)))] [(cI, .int)] (some (.int (nI (1)))) := by
  refine Met.ofW (cc := b_FM_keep) (maxL := 2) (ret := (some .boolean)) (by decide) rfl ?_
  intro pg ev s m args below meth cd s₁ BD hml hv
  obtain ⟨rfl, hP, hK, hD0⟩ := hv
  have hx := BD.exec
  have hb := BD.bytes
  have hr := BD.returns
  have hts := atoms_spec (ws := w_FM_keep) BD.pre
  have ht : ∀ w ∈ fm_T, w.before _ s = true := fun w h => hts w (List.mem_cons_of_mem _ h)
  have hown : s.vm.findClass R_FM = some m.cls := findClass_of_methodNamed BD.named
  have hlocks := BD.notSynchronized
  have S : CallFix pg m cd b_FM_keep 2 s _ w_FM_keep R_FM := ⟨hx, hb, hml, hown, hts⟩
  have hD := fm_selfD hD0
  generalize fm_A [(h, .inr (3, [.ref bf, .ref li, .ref ra, .int (rl), .ref o, .ref sp, .int (ld)])), (bf, .inr (0, [.ref ba, .int (nI (n))])), (ba, .inl (cI, 2048, .inl (b)))] = A at hD ⊢
  have hS : va_S A s.heap s.heap [] := va_S.rf
  have hl := lv_entry ([.ref h, .int (nI (k))]) (n := 2) (Nat.le_of_ble_eq_true rfl)
  rw [lg_entry_eq]
  generalize (lg_sl ([.ref h, .int (nI (k))]) ++ List.replicate (2 - (lg_sl ([.ref h, .int (nI (k))])).length) Slot.unset).toArray = ls at hl ⊢
  have hl : lv_has ls 2 [(0, .ref h), (1, .int (nI (k)))] := hl
  refine lv_aload_n hx hb d_FM_keep_0 rfl (lv_at hl 0 rfl) ?_
  refine va_get (D := (dC, dI)) (ci := 3) (v := .ref bf) (C := R_FM) (T := F_FM) (N := 7) hx hb ht i_FM hown hK hP 0 rfl rfl 0 (by decide) (ht _ q_1_99) (fun _ h9 => h9) rfl d_FM_keep_1 ?_
  refine lv_iload_n hx hb d_FM_keep_4 rfl (lv_at hl 1 rfl) ?_
  refine fm_wv S (c_BF_cutY l dC dI bf ba n cI b k (by omega) (by omega)) rfl rfl k_BF_cut q_1_137 ⟨Nat.le_of_ble_eq_true rfl, Nat.le_of_ble_eq_true rfl⟩ hP hD hS (hK.sub [0] rfl) [1, 2] (by decide) rfl 0 rfl rfl rfl hl.1 rfl (Nat.le_of_ble_eq_true rfl) ⟨Nat.zero_le _, Nat.zero_le _⟩ d_FM_keep_5 [(h, .inr (3, [.ref bf, .ref li, .ref ra, .int (rl), .ref o, .ref sp, .int (ld)])), (bf, .inr (0, [.ref ba, .int (nI (k))])), (ba, .inl (cI, 2048, .inl (b)))] [0] rfl rfl (show ∀ i, i < 3 → i ∈ ([1, 2] : List Nat) ∨ i ∈ ([0] : List Nat) by decide) (by decide) rfl (fun H locs hP hD hS => ?_)
  have hP : va_P (dC, dI) classes [(h, .inr (3, [.ref bf, .ref li, .ref ra, .int (rl), .ref o, .ref sp, .int (ld)])), (bf, .inr (0, [.ref ba, .int (nI (k))])), (ba, .inl (cI, 2048, .inl (b)))] _ := hP
  have hD : va_D A [(h, .inr (3, [.ref bf, .ref li, .ref ra, .int (rl), .ref o, .ref sp, .int (ld)])), (bf, .inr (0, [.ref ba, .int (nI (k))])), (ba, .inl (cI, 2048, .inl (b)))] := hD
  exact W.zret (ty := .boolean) hx hb hr (rfl) (fun t ht hW => ⟨congrArg (fun z => Outcome.returned (some (Value.int z))) (rfl), by rw [ht]; exact hP, hS.F ht⟩) hS.2.2 d_FM_keep_8
set_option maxHeartbeats 4000000 in
set_option maxRecDepth 100000 in
theorem c_FM_keepN (l : Launch) (dC : Nat → ClassId) (dI : Nat → Nat → Nat) (h : Nat) (bf : Nat) (li : Nat) (ra : Nat) (rl : Int32) (o : Nat) (sp : Nat) (ld : Int32) (ba : Nat) (n : Nat) (cI : ClassId) (b : Nat → Int32) (x : Int32) (hn : n ≤ 8192) (hno : x < 0 ∨ nI n < x) : fm_MW l (dC, dI) y_FM_keep w_FM_keep ({ frames := 1, cells := 0, slots := 0, locals := 21 }) [.ref h, .int (x)] [(h, .inr (3, [.ref bf, .ref li, .ref ra, .int (rl), .ref o, .ref sp, .int (ld)])), (bf, .inr (0, [.ref ba, .int (nI (n))])), (ba, .inl (cI, 2048, .inl (b)))] [(h, .inr (3, [.ref bf, .ref li, .ref ra, .int (rl), .ref o, .ref sp, .int (ld)])), (bf, .inr (0, [.ref ba, .int (nI (n))])), (ba, .inl (cI, 2048, .inl (b)))] [(cI, .int)] (some (.int (nI (0)))) := by
  refine Met.ofW (cc := b_FM_keep) (maxL := 2) (ret := (some .boolean)) (by decide) rfl ?_
  intro pg ev s m args below meth cd s₁ BD hml hv
  obtain ⟨rfl, hP, hK, hD0⟩ := hv
  have hx := BD.exec
  have hb := BD.bytes
  have hr := BD.returns
  have hts := atoms_spec (ws := w_FM_keep) BD.pre
  have ht : ∀ w ∈ fm_T, w.before _ s = true := fun w h => hts w (List.mem_cons_of_mem _ h)
  have hown : s.vm.findClass R_FM = some m.cls := findClass_of_methodNamed BD.named
  have hlocks := BD.notSynchronized
  have S : CallFix pg m cd b_FM_keep 2 s _ w_FM_keep R_FM := ⟨hx, hb, hml, hown, hts⟩
  have hD := fm_selfD hD0
  generalize fm_A [(h, .inr (3, [.ref bf, .ref li, .ref ra, .int (rl), .ref o, .ref sp, .int (ld)])), (bf, .inr (0, [.ref ba, .int (nI (n))])), (ba, .inl (cI, 2048, .inl (b)))] = A at hD ⊢
  have hS : va_S A s.heap s.heap [] := va_S.rf
  have hl := lv_entry ([.ref h, .int (x)]) (n := 2) (Nat.le_of_ble_eq_true rfl)
  rw [lg_entry_eq]
  generalize (lg_sl ([.ref h, .int (x)]) ++ List.replicate (2 - (lg_sl ([.ref h, .int (x)])).length) Slot.unset).toArray = ls at hl ⊢
  have hl : lv_has ls 2 [(0, .ref h), (1, .int (x))] := hl
  refine lv_aload_n hx hb d_FM_keep_0 rfl (lv_at hl 0 rfl) ?_
  refine va_get (D := (dC, dI)) (ci := 3) (v := .ref bf) (C := R_FM) (T := F_FM) (N := 7) hx hb ht i_FM hown hK hP 0 rfl rfl 0 (by decide) (ht _ q_1_99) (fun _ h9 => h9) rfl d_FM_keep_1 ?_
  refine lv_iload_n hx hb d_FM_keep_4 rfl (lv_at hl 1 rfl) ?_
  refine fm_wv S (c_BF_cutN l dC dI bf ba n cI b x (by omega) (hno)) rfl rfl k_BF_cut q_1_137 ⟨Nat.le_of_ble_eq_true rfl, Nat.le_of_ble_eq_true rfl⟩ hP hD hS (hK.sub [0] rfl) [1, 2] (by decide) rfl 0 rfl rfl rfl hl.1 rfl (Nat.le_of_ble_eq_true rfl) ⟨Nat.zero_le _, Nat.zero_le _⟩ d_FM_keep_5 [(h, .inr (3, [.ref bf, .ref li, .ref ra, .int (rl), .ref o, .ref sp, .int (ld)])), (bf, .inr (0, [.ref ba, .int (nI (n))])), (ba, .inl (cI, 2048, .inl (b)))] [0] rfl rfl (show ∀ i, i < 3 → i ∈ ([1, 2] : List Nat) ∨ i ∈ ([0] : List Nat) by decide) (by decide) rfl (fun H locs hP hD hS => ?_)
  have hP : va_P (dC, dI) classes [(h, .inr (3, [.ref bf, .ref li, .ref ra, .int (rl), .ref o, .ref sp, .int (ld)])), (bf, .inr (0, [.ref ba, .int (nI (n))])), (ba, .inl (cI, 2048, .inl (b)))] _ := hP
  have hD : va_D A [(h, .inr (3, [.ref bf, .ref li, .ref ra, .int (rl), .ref o, .ref sp, .int (ld)])), (bf, .inr (0, [.ref ba, .int (nI (n))])), (ba, .inl (cI, 2048, .inl (b)))] := hD
  exact W.zret (ty := .boolean) hx hb hr (rfl) (fun t ht hW => ⟨congrArg (fun z => Outcome.returned (some (Value.int z))) (rfl), by rw [ht]; exact hP, hS.F ht⟩) hS.2.2 d_FM_keep_8
theorem d_FM_add_0 : decode b_FM_add 0 = .ok (.iload_n 1, 1) := by decide +kernel
theorem d_FM_add_1 : decode b_FM_add 1 = .ok (.ifCond .lt 29, 3) := by decide +kernel
theorem d_FM_add_4 : decode b_FM_add 4 = .ok (.iload_n 1, 1) := by decide +kernel
theorem d_FM_add_5 : decode b_FM_add 5 = .ok (.sipush 255, 3) := by decide +kernel
theorem d_FM_add_8 : decode b_FM_add 8 = .ok (.if_icmp .gt 22, 3) := by decide +kernel
theorem d_FM_add_11 : decode b_FM_add 11 = .ok (.aload_n 0, 1) := by decide +kernel
theorem d_FM_add_12 : decode b_FM_add 12 = .ok (.getfield 27, 3) := by decide +kernel
theorem d_FM_add_15 : decode b_FM_add 15 = .ok (.ifCond .lt 15, 3) := by decide +kernel
theorem d_FM_add_18 : decode b_FM_add 18 = .ok (.aload_n 0, 1) := by decide +kernel
theorem d_FM_add_19 : decode b_FM_add 19 = .ok (.getfield 27, 3) := by decide +kernel
theorem d_FM_add_22 : decode b_FM_add 22 = .ok (.aload_n 0, 1) := by decide +kernel
theorem d_FM_add_23 : decode b_FM_add 23 = .ok (.getfield 23, 3) := by decide +kernel
theorem d_FM_add_26 : decode b_FM_add 26 = .ok (.arraylength, 1) := by decide +kernel
theorem d_FM_add_27 : decode b_FM_add 27 = .ok (.if_icmp .lt 5, 3) := by decide +kernel
theorem d_FM_add_30 : decode b_FM_add 30 = .ok (.iconst 0, 1) := by decide +kernel
theorem d_FM_add_31 : decode b_FM_add 31 = .ok (.ireturn, 1) := by decide +kernel
theorem d_FM_add_32 : decode b_FM_add 32 = .ok (.aload_n 0, 1) := by decide +kernel
theorem d_FM_add_33 : decode b_FM_add 33 = .ok (.getfield 23, 3) := by decide +kernel
theorem d_FM_add_36 : decode b_FM_add 36 = .ok (.aload_n 0, 1) := by decide +kernel
theorem d_FM_add_37 : decode b_FM_add 37 = .ok (.getfield 27, 3) := by decide +kernel
theorem d_FM_add_40 : decode b_FM_add 40 = .ok (.iload_n 1, 1) := by decide +kernel
theorem d_FM_add_41 : decode b_FM_add 41 = .ok (.iastore, 1) := by decide +kernel
theorem d_FM_add_42 : decode b_FM_add 42 = .ok (.aload_n 0, 1) := by decide +kernel
theorem d_FM_add_43 : decode b_FM_add 43 = .ok (.dup, 1) := by decide +kernel
theorem d_FM_add_44 : decode b_FM_add 44 = .ok (.getfield 27, 3) := by decide +kernel
theorem d_FM_add_47 : decode b_FM_add 47 = .ok (.iconst 1, 1) := by decide +kernel
theorem d_FM_add_48 : decode b_FM_add 48 = .ok (.iadd, 1) := by decide +kernel
theorem d_FM_add_49 : decode b_FM_add 49 = .ok (.putfield 27, 3) := by decide +kernel
theorem d_FM_add_52 : decode b_FM_add 52 = .ok (.iconst 1, 1) := by decide +kernel
theorem d_FM_add_53 : decode b_FM_add 53 = .ok (.ireturn, 1) := by decide +kernel
set_option maxHeartbeats 4000000 in
set_option maxRecDepth 100000 in
theorem c_FM_addY (l : Launch) (dC : Nat → ClassId) (dI : Nat → Nat → Nat) (h : Nat) (bf : Nat) (li : Nat) (ra : Nat) (o : Nat) (sp : Nat) (ld : Int32) (rn : Nat) (cI : ClassId) (rw : Nat → Int32) (c : Nat) (hc : c ≤ 255) (hrn : rn < 64) : fm_MW l (dC, dI) y_FM_add w_FM_add ({ frames := 0, cells := 0, slots := 0, locals := 0 }) [.ref h, .int (nI (c))] [(h, .inr (3, [.ref bf, .ref li, .ref ra, .int (nI (rn)), .ref o, .ref sp, .int (ld)])), (ra, .inl (cI, 64, .inl (rw)))] [(h, .inr (3, [.ref bf, .ref li, .ref ra, .int (nI (rn + 1)), .ref o, .ref sp, .int (ld)])), (ra, .inl (cI, 64, .inl (upd rw rn (nI c))))] [(cI, .int)] (some (.int (nI (1)))) := by
  refine Met.ofW (cc := b_FM_add) (maxL := 2) (ret := (some .boolean)) (by decide) rfl ?_
  intro pg ev s m args below meth cd s₁ BD hml hv
  obtain ⟨rfl, hP, hK, hD0⟩ := hv
  have hx := BD.exec
  have hb := BD.bytes
  have hr := BD.returns
  have hts := atoms_spec (ws := w_FM_add) BD.pre
  have ht : ∀ w ∈ fm_T, w.before _ s = true := fun w h => hts w (List.mem_cons_of_mem _ h)
  have hown : s.vm.findClass R_FM = some m.cls := findClass_of_methodNamed BD.named
  have hlocks := BD.notSynchronized
  have S : CallFix pg m cd b_FM_add 2 s _ w_FM_add R_FM := ⟨hx, hb, hml, hown, hts⟩
  have hD := fm_selfD hD0
  generalize fm_A [(h, .inr (3, [.ref bf, .ref li, .ref ra, .int (nI (rn)), .ref o, .ref sp, .int (ld)])), (ra, .inl (cI, 64, .inl (rw)))] = A at hD ⊢
  have hS : va_S A s.heap s.heap [] := va_S.rf
  have hl := lv_entry ([.ref h, .int (nI (c))]) (n := 2) (Nat.le_of_ble_eq_true rfl)
  rw [lg_entry_eq]
  generalize (lg_sl ([.ref h, .int (nI (c))]) ++ List.replicate (2 - (lg_sl ([.ref h, .int (nI (c))])).length) Slot.unset).toArray = ls at hl ⊢
  have hl : lv_has ls 2 [(0, .ref h), (1, .int (nI (c)))] := hl
  refine lv_iload_n hx hb d_FM_add_0 rfl (lv_at hl 1 rfl) ?_
  refine lv_if_lt (tgt := 30) hx hb d_FM_add_1 (by decide) (fun c0 => ?_) (fun c0 => ?_)
  · have c_1 : c < 0 := (nI_ltI (a := c) (b := 0) (by omega) (by omega)).mp c0
    exact absurd c_1 (by omega)
  · have c_1 : ¬ (c < 0) := fun z => c0 ((nI_ltI (a := c) (b := 0) (by omega) (by omega)).mpr z)
    refine lv_iload_n hx hb d_FM_add_4 rfl (lv_at hl 1 rfl) ?_
    refine lv_sipush (v := nI (255)) hx hb d_FM_add_5 (by decide) ?_
    refine lv_icmp_gt (tgt := 30) hx hb d_FM_add_8 (by decide) (fun c0 => ?_) (fun c0 => ?_)
    · have c_8 : 255 < c := (nI_ltI (a := 255) (b := c) (by omega) (by omega)).mp c0
      exact absurd c_8 (by omega)
    · have c_8 : ¬ (255 < c) := fun z => c0 ((nI_ltI (a := 255) (b := c) (by omega) (by omega)).mpr z)
      refine lv_aload_n hx hb d_FM_add_11 rfl (lv_at hl 0 rfl) ?_
      refine va_get (D := (dC, dI)) (ci := 3) (v := .int (nI (rn))) (C := R_FM) (T := F_FM) (N := 7) hx hb ht i_FM hown hK hP 0 rfl rfl 3 (by decide) (ht _ q_1_102) (fun _ h9 => h9) rfl d_FM_add_12 ?_
      refine lv_if_lt (tgt := 30) hx hb d_FM_add_15 (by decide) (fun c0 => ?_) (fun c0 => ?_)
      · have c_15 : rn < 0 := (nI_ltI (a := rn) (b := 0) (by omega) (by omega)).mp c0
        exact absurd c_15 (by omega)
      · have c_15 : ¬ (rn < 0) := fun z => c0 ((nI_ltI (a := rn) (b := 0) (by omega) (by omega)).mpr z)
        refine lv_aload_n hx hb d_FM_add_18 rfl (lv_at hl 0 rfl) ?_
        refine va_get (D := (dC, dI)) (ci := 3) (v := .int (nI (rn))) (C := R_FM) (T := F_FM) (N := 7) hx hb ht i_FM hown hK hP 0 rfl rfl 3 (by decide) (ht _ q_1_102) (fun _ h9 => h9) rfl d_FM_add_19 ?_
        refine lv_aload_n hx hb d_FM_add_22 rfl (lv_at hl 0 rfl) ?_
        refine va_get (D := (dC, dI)) (ci := 3) (v := .ref ra) (C := R_FM) (T := F_FM) (N := 7) hx hb ht i_FM hown hK hP 0 rfl rfl 2 (by decide) (ht _ q_1_101) (fun _ h9 => h9) rfl d_FM_add_23 ?_
        refine va_alen hx hb hK hP 1 0 rfl rfl (v := nI (64)) rfl d_FM_add_26 ?_
        refine lv_icmp_lt (tgt := 32) hx hb d_FM_add_27 (by decide) (fun c0 => ?_) (fun c0 => ?_)
        · have c_27 : rn < 64 := (nI_ltI (a := rn) (b := 64) (by omega) (by omega)).mp c0
          refine lv_aload_n hx hb d_FM_add_32 rfl (lv_at hl 0 rfl) ?_
          refine va_get (D := (dC, dI)) (ci := 3) (v := .ref ra) (C := R_FM) (T := F_FM) (N := 7) hx hb ht i_FM hown hK hP 0 rfl rfl 2 (by decide) (ht _ q_1_101) (fun _ h9 => h9) rfl d_FM_add_33 ?_
          refine lv_aload_n hx hb d_FM_add_36 rfl (lv_at hl 0 rfl) ?_
          refine va_get (D := (dC, dI)) (ci := 3) (v := .int (nI (rn))) (C := R_FM) (T := F_FM) (N := 7) hx hb ht i_FM hown hK hP 0 rfl rfl 3 (by decide) (ht _ q_1_102) (fun _ h9 => h9) rfl d_FM_add_37 ?_
          refine lv_iload_n hx hb d_FM_add_40 rfl (lv_at hl 1 rfl) ?_
          refine va_iast hx hb hK hP hD hS 1 0 rfl rfl (vp_in_nI (by omega) (by omega)) d_FM_add_41 (fun H locs hP hD hS => ?_)
          have hP : va_P (dC, dI) classes [(h, .inr (3, [.ref bf, .ref li, .ref ra, .int (nI (rn)), .ref o, .ref sp, .int (ld)])), (ra, .inl (cI, 64, .inl (upd rw (nI (rn)).toNatClampNeg (nI (c)))))] _ := hP
          have hD : va_D A [(h, .inr (3, [.ref bf, .ref li, .ref ra, .int (nI (rn)), .ref o, .ref sp, .int (ld)])), (ra, .inl (cI, 64, .inl (upd rw (nI (rn)).toNatClampNeg (nI (c)))))] := hD
          rw [nI_clamp (show rn < 2 ^ 31 by omega)] at hP hD
          have hP : va_P (dC, dI) classes [(h, .inr (3, [.ref bf, .ref li, .ref ra, .int (nI (rn)), .ref o, .ref sp, .int (ld)])), (ra, .inl (cI, 64, .inl (upd rw (rn) (nI (c)))))] _ := hP
          have hD : va_D A [(h, .inr (3, [.ref bf, .ref li, .ref ra, .int (nI (rn)), .ref o, .ref sp, .int (ld)])), (ra, .inl (cI, 64, .inl (upd rw (rn) (nI (c)))))] := hD
          refine lv_aload_n hx hb d_FM_add_42 rfl (lv_at hl 0 rfl) ?_
          refine lv_dup hx hb d_FM_add_43 rfl ?_
          refine va_get (D := (dC, dI)) (ci := 3) (v := .int (nI (rn))) (C := R_FM) (T := F_FM) (N := 7) hx hb ht i_FM hown hK hP 0 rfl rfl 3 (by decide) (ht _ q_1_102) (fun _ h9 => h9) rfl d_FM_add_44 ?_
          refine lv_iconst (v := nI (1)) hx hb d_FM_add_47 (by decide) ?_
          refine lv_iadd hx hb d_FM_add_48 ?_
          refine fm_tw (z := nI (rn + 1)) (nI_add _ _) ?_
          refine va_put (D := (dC, dI)) (ci := 3) (v := .int (nI (rn + 1))) (ty := .int) (C := R_FM) (T := F_FM) (N := 7) hx hb ht i_FM t_FM t_FM_ok n_FM hown hK hP hD hS 0 rfl rfl 3 (by decide) (ht _ q_1_102) (fun _ h9 => h9) rfl (by decide +kernel) (rfl) (rfl) (Nat.le_of_ble_eq_true rfl) d_FM_add_49 (fun H locs hP hD hS => ?_)
          have hP : va_P (dC, dI) classes [(h, .inr (3, [.ref bf, .ref li, .ref ra, .int (nI (rn + 1)), .ref o, .ref sp, .int (ld)])), (ra, .inl (cI, 64, .inl (upd rw (rn) (nI (c)))))] _ := hP
          have hD : va_D A [(h, .inr (3, [.ref bf, .ref li, .ref ra, .int (nI (rn + 1)), .ref o, .ref sp, .int (ld)])), (ra, .inl (cI, 64, .inl (upd rw (rn) (nI (c)))))] := hD
          refine lv_iconst (v := nI (1)) hx hb d_FM_add_52 (by decide) ?_
          exact W.zret (ty := .boolean) hx hb hr (rfl) (fun t ht hW => ⟨congrArg (fun z => Outcome.returned (some (Value.int z))) (rfl), by rw [ht]; exact hP, hS.F ht⟩) hS.2.2 d_FM_add_53
        · have c_27 : ¬ (rn < 64) := fun z => c0 ((nI_ltI (a := rn) (b := 64) (by omega) (by omega)).mpr z)
          exact absurd hrn c_27
set_option maxHeartbeats 4000000 in
set_option maxRecDepth 100000 in
theorem c_FM_addN (l : Launch) (dC : Nat → ClassId) (dI : Nat → Nat → Nat) (h : Nat) (bf : Nat) (li : Nat) (ra : Nat) (o : Nat) (sp : Nat) (ld : Int32) (rn : Nat) (cI : ClassId) (rw : Nat → Int32) (x : Int32) (hrn : rn ≤ 64) (hno : x < 0 ∨ nI 255 < x ∨ rn = 64) : fm_MW l (dC, dI) y_FM_add w_FM_add ({ frames := 0, cells := 0, slots := 0, locals := 0 }) [.ref h, .int (x)] [(h, .inr (3, [.ref bf, .ref li, .ref ra, .int (nI (rn)), .ref o, .ref sp, .int (ld)])), (ra, .inl (cI, 64, .inl (rw)))] [(h, .inr (3, [.ref bf, .ref li, .ref ra, .int (nI (rn)), .ref o, .ref sp, .int (ld)])), (ra, .inl (cI, 64, .inl (rw)))] [(cI, .int)] (some (.int (nI (0)))) := by
  refine Met.ofW (cc := b_FM_add) (maxL := 2) (ret := (some .boolean)) (by decide) rfl ?_
  intro pg ev s m args below meth cd s₁ BD hml hv
  obtain ⟨rfl, hP, hK, hD0⟩ := hv
  have hx := BD.exec
  have hb := BD.bytes
  have hr := BD.returns
  have hts := atoms_spec (ws := w_FM_add) BD.pre
  have ht : ∀ w ∈ fm_T, w.before _ s = true := fun w h => hts w (List.mem_cons_of_mem _ h)
  have hown : s.vm.findClass R_FM = some m.cls := findClass_of_methodNamed BD.named
  have hlocks := BD.notSynchronized
  have S : CallFix pg m cd b_FM_add 2 s _ w_FM_add R_FM := ⟨hx, hb, hml, hown, hts⟩
  have hD := fm_selfD hD0
  generalize fm_A [(h, .inr (3, [.ref bf, .ref li, .ref ra, .int (nI (rn)), .ref o, .ref sp, .int (ld)])), (ra, .inl (cI, 64, .inl (rw)))] = A at hD ⊢
  have hS : va_S A s.heap s.heap [] := va_S.rf
  have hl := lv_entry ([.ref h, .int (x)]) (n := 2) (Nat.le_of_ble_eq_true rfl)
  rw [lg_entry_eq]
  generalize (lg_sl ([.ref h, .int (x)]) ++ List.replicate (2 - (lg_sl ([.ref h, .int (x)])).length) Slot.unset).toArray = ls at hl ⊢
  have hl : lv_has ls 2 [(0, .ref h), (1, .int (x))] := hl
  refine lv_iload_n hx hb d_FM_add_0 rfl (lv_at hl 1 rfl) ?_
  refine lv_if_lt (tgt := 30) hx hb d_FM_add_1 (by decide) (fun c0 => ?_) (fun c0 => ?_)
  · have c_1 := c0
    refine lv_iconst (v := nI (0)) hx hb d_FM_add_30 (by decide) ?_
    exact W.zret (ty := .boolean) hx hb hr (rfl) (fun t ht hW => ⟨congrArg (fun z => Outcome.returned (some (Value.int z))) (rfl), by rw [ht]; exact hP, hS.F ht⟩) hS.2.2 d_FM_add_31
  · have c_1 := c0
    refine lv_iload_n hx hb d_FM_add_4 rfl (lv_at hl 1 rfl) ?_
    refine lv_sipush (v := nI (255)) hx hb d_FM_add_5 (by decide) ?_
    refine lv_icmp_gt (tgt := 30) hx hb d_FM_add_8 (by decide) (fun c0 => ?_) (fun c0 => ?_)
    · have c_8 := c0
      refine lv_iconst (v := nI (0)) hx hb d_FM_add_30 (by decide) ?_
      exact W.zret (ty := .boolean) hx hb hr (rfl) (fun t ht hW => ⟨congrArg (fun z => Outcome.returned (some (Value.int z))) (rfl), by rw [ht]; exact hP, hS.F ht⟩) hS.2.2 d_FM_add_31
    · have c_8 := c0
      refine lv_aload_n hx hb d_FM_add_11 rfl (lv_at hl 0 rfl) ?_
      refine va_get (D := (dC, dI)) (ci := 3) (v := .int (nI (rn))) (C := R_FM) (T := F_FM) (N := 7) hx hb ht i_FM hown hK hP 0 rfl rfl 3 (by decide) (ht _ q_1_102) (fun _ h9 => h9) rfl d_FM_add_12 ?_
      refine lv_if_lt (tgt := 30) hx hb d_FM_add_15 (by decide) (fun c0 => ?_) (fun c0 => ?_)
      · have c_15 : rn < 0 := (nI_ltI (a := rn) (b := 0) (by omega) (by omega)).mp c0
        refine lv_iconst (v := nI (0)) hx hb d_FM_add_30 (by decide) ?_
        exact W.zret (ty := .boolean) hx hb hr (rfl) (fun t ht hW => ⟨congrArg (fun z => Outcome.returned (some (Value.int z))) (rfl), by rw [ht]; exact hP, hS.F ht⟩) hS.2.2 d_FM_add_31
      · have c_15 : ¬ (rn < 0) := fun z => c0 ((nI_ltI (a := rn) (b := 0) (by omega) (by omega)).mpr z)
        refine lv_aload_n hx hb d_FM_add_18 rfl (lv_at hl 0 rfl) ?_
        refine va_get (D := (dC, dI)) (ci := 3) (v := .int (nI (rn))) (C := R_FM) (T := F_FM) (N := 7) hx hb ht i_FM hown hK hP 0 rfl rfl 3 (by decide) (ht _ q_1_102) (fun _ h9 => h9) rfl d_FM_add_19 ?_
        refine lv_aload_n hx hb d_FM_add_22 rfl (lv_at hl 0 rfl) ?_
        refine va_get (D := (dC, dI)) (ci := 3) (v := .ref ra) (C := R_FM) (T := F_FM) (N := 7) hx hb ht i_FM hown hK hP 0 rfl rfl 2 (by decide) (ht _ q_1_101) (fun _ h9 => h9) rfl d_FM_add_23 ?_
        refine va_alen hx hb hK hP 1 0 rfl rfl (v := nI (64)) rfl d_FM_add_26 ?_
        refine lv_icmp_lt (tgt := 32) hx hb d_FM_add_27 (by decide) (fun c0 => ?_) (fun c0 => ?_)
        · have c_27 : rn < 64 := (nI_ltI (a := rn) (b := 64) (by omega) (by omega)).mp c0
          exact absurd ((hno.resolve_left c_1).resolve_left c_8) (by omega)
        · have c_27 : ¬ (rn < 64) := fun z => c0 ((nI_ltI (a := rn) (b := 64) (by omega) (by omega)).mpr z)
          refine lv_iconst (v := nI (0)) hx hb d_FM_add_30 (by decide) ?_
          exact W.zret (ty := .boolean) hx hb hr (rfl) (fun t ht hW => ⟨congrArg (fun z => Outcome.returned (some (Value.int z))) (rfl), by rw [ht]; exact hP, hS.F ht⟩) hS.2.2 d_FM_add_31
theorem d_FM_has_0 : decode b_FM_has 0 = .ok (.aload_n 0, 1) := by decide +kernel
theorem d_FM_has_1 : decode b_FM_has 1 = .ok (.getfield 41, 3) := by decide +kernel
theorem d_FM_has_4 : decode b_FM_has 4 = .ok (.ifCond .eq 18, 3) := by decide +kernel
theorem d_FM_has_7 : decode b_FM_has 7 = .ok (.aload_n 0, 1) := by decide +kernel
theorem d_FM_has_8 : decode b_FM_has 8 = .ok (.getfield 34, 3) := by decide +kernel
theorem d_FM_has_11 : decode b_FM_has 11 = .ok (.iload_n 1, 1) := by decide +kernel
theorem d_FM_has_12 : decode b_FM_has 12 = .ok (.invokevirtual 119, 3) := by decide +kernel
theorem d_FM_has_15 : decode b_FM_has 15 = .ok (.ifCond .eq 7, 3) := by decide +kernel
theorem d_FM_has_18 : decode b_FM_has 18 = .ok (.iconst 1, 1) := by decide +kernel
theorem d_FM_has_19 : decode b_FM_has 19 = .ok (.goto 4, 3) := by decide +kernel
theorem d_FM_has_22 : decode b_FM_has 22 = .ok (.iconst 0, 1) := by decide +kernel
theorem d_FM_has_23 : decode b_FM_has 23 = .ok (.ireturn, 1) := by decide +kernel
set_option maxHeartbeats 4000000 in
set_option maxRecDepth 100000 in
theorem c_FM_hasU (l : Launch) (dC : Nat → ClassId) (dI : Nat → Nat → Nat) (h : Nat) (bf : Nat) (li : Nat) (ra : Nat) (rl : Int32) (o : Nat) (sp : Nat) (x : Int32)  : fm_M l (dC, dI) y_FM_has w_FM_has ({ frames := 0, cells := 0, slots := 0, locals := 0 }) [.ref h, .int (x)] [(h, .inr (3, [.ref bf, .ref li, .ref ra, .int (rl), .ref o, .ref sp, .int (nI (0))]))] [] (nI (0)) := by
  refine Met.ofW (cc := b_FM_has) (maxL := 2) (ret := (some .boolean)) (by decide) rfl ?_
  intro pg ev s m args below meth cd s₁ BD hml hv
  obtain ⟨rfl, hP, hK⟩ := hv
  have hx := BD.exec
  have hb := BD.bytes
  have hr := BD.returns
  have hts := atoms_spec (ws := w_FM_has) BD.pre
  have ht : ∀ w ∈ fm_T, w.before _ s = true := fun w h => hts w (List.mem_cons_of_mem _ h)
  have hown : s.vm.findClass R_FM = some m.cls := findClass_of_methodNamed BD.named
  have hlocks := BD.notSynchronized
  have S : CallFix pg m cd b_FM_has 2 s _ w_FM_has R_FM := ⟨hx, hb, hml, hown, hts⟩
  have hl := lv_entry ([.ref h, .int (x)]) (n := 2) (Nat.le_of_ble_eq_true rfl)
  rw [lg_entry_eq]
  generalize (lg_sl ([.ref h, .int (x)]) ++ List.replicate (2 - (lg_sl ([.ref h, .int (x)])).length) Slot.unset).toArray = ls at hl ⊢
  have hl : lv_has ls 2 [(0, .ref h), (1, .int (x))] := hl
  refine lv_aload_n hx hb d_FM_has_0 rfl (lv_at hl 0 rfl) ?_
  refine va_get (D := (dC, dI)) (ci := 3) (v := .int (nI (0))) (C := R_FM) (T := F_FM) (N := 7) hx hb ht i_FM hown hK hP 0 rfl rfl 6 (by decide) (ht _ q_1_105) (fun _ h9 => h9) rfl d_FM_has_1 ?_
  refine lv_if_eq (tgt := 22) hx hb d_FM_has_4 (by decide) (fun c0 => ?_) (fun c0 => ?_)
  · have c_4 : 0 = 0 := (nI_eq (a := 0) (b := 0) (by omega) (by omega)).mp c0
    refine lv_iconst (v := nI (0)) hx hb d_FM_has_22 (by decide) ?_
    exact W.zret (ty := .boolean) hx hb hr (rfl) (fun t ht hW => ⟨_, rfl, rfl, ht⟩) (fun q hq => by cases hq) d_FM_has_23
  · have c_4 : ¬ (0 = 0) := fun z => c0 ((nI_eq (a := 0) (b := 0) (by omega) (by omega)).mpr z)
    exact absurd c_4 (by decide)
set_option maxHeartbeats 4000000 in
set_option maxRecDepth 100000 in
theorem c_FM_hasL (l : Launch) (dC : Nat → ClassId) (dI : Nat → Nat → Nat) (h : Nat) (bf : Nat) (li : Nat) (ra : Nat) (rl : Int32) (o : Nat) (sp : Nat) (wa : Nat) (sa : Nat) (la : Nat) (s0 : Nat) (cI : ClassId) (B : Nat → Nat) (w : Nat → Int32) (st : Nat → Int32) (ln : Nat → Int32) (x : Int32) (hF : fm_FO B w st ln) : fm_M l (dC, dI) y_FM_has w_FM_has ({ frames := 3, cells := 0, slots := 0, locals := 65 }) [.ref h, .int (x)] [(h, .inr (3, [.ref bf, .ref li, .ref ra, .int (rl), .ref o, .ref sp, .int (nI (1))])), (o, .inr (1, [.ref wa, .ref sa, .ref la, .int (nI (fm_HF B 2)), .int (nI (fm_HF B 3)), .int (nI (s0)), .int (nI (fm_z s0)), .int (nI (fm_h s0))])), (wa, .inl (cI, 2048, .inl (w))), (sa, .inl (cI, 10, .inl (st))), (la, .inl (cI, 10, .inl (ln)))] [(cI, .int)] ((fm_bI (fm_thI B x))) := by
  refine Met.ofW (cc := b_FM_has) (maxL := 2) (ret := (some .boolean)) (by decide) rfl ?_
  intro pg ev s m args below meth cd s₁ BD hml hv
  obtain ⟨rfl, hP, hK⟩ := hv
  have hx := BD.exec
  have hb := BD.bytes
  have hr := BD.returns
  have hts := atoms_spec (ws := w_FM_has) BD.pre
  have ht : ∀ w ∈ fm_T, w.before _ s = true := fun w h => hts w (List.mem_cons_of_mem _ h)
  have hown : s.vm.findClass R_FM = some m.cls := findClass_of_methodNamed BD.named
  have hlocks := BD.notSynchronized
  have S : CallFix pg m cd b_FM_has 2 s _ w_FM_has R_FM := ⟨hx, hb, hml, hown, hts⟩
  have hl := lv_entry ([.ref h, .int (x)]) (n := 2) (Nat.le_of_ble_eq_true rfl)
  rw [lg_entry_eq]
  generalize (lg_sl ([.ref h, .int (x)]) ++ List.replicate (2 - (lg_sl ([.ref h, .int (x)])).length) Slot.unset).toArray = ls at hl ⊢
  have hl : lv_has ls 2 [(0, .ref h), (1, .int (x))] := hl
  refine lv_aload_n hx hb d_FM_has_0 rfl (lv_at hl 0 rfl) ?_
  refine va_get (D := (dC, dI)) (ci := 3) (v := .int (nI (1))) (C := R_FM) (T := F_FM) (N := 7) hx hb ht i_FM hown hK hP 0 rfl rfl 6 (by decide) (ht _ q_1_105) (fun _ h9 => h9) rfl d_FM_has_1 ?_
  refine lv_if_eq (tgt := 22) hx hb d_FM_has_4 (by decide) (fun c0 => ?_) (fun c0 => ?_)
  · have c_4 : 1 = 0 := (nI_eq (a := 1) (b := 0) (by omega) (by omega)).mp c0
    exact absurd c_4 (by decide)
  · have c_4 : ¬ (1 = 0) := fun z => c0 ((nI_eq (a := 1) (b := 0) (by omega) (by omega)).mpr z)
    refine lv_aload_n hx hb d_FM_has_7 rfl (lv_at hl 0 rfl) ?_
    refine va_get (D := (dC, dI)) (ci := 3) (v := .ref o) (C := R_FM) (T := F_FM) (N := 7) hx hb ht i_FM hown hK hP 0 rfl rfl 4 (by decide) (ht _ q_1_103) (fun _ h9 => h9) rfl d_FM_has_8 ?_
    refine lv_iload_n hx hb d_FM_has_11 rfl (lv_at hl 1 rfl) ?_
    refine fm_cv S (c_FO_isThere l dC dI o wa sa la (nI (s0)) (nI (fm_z s0)) (nI (fm_h s0)) cI B w st ln x (hF)) rfl rfl k_FO_isThere q_1_145 ⟨Nat.le_of_ble_eq_true rfl, Nat.le_of_ble_eq_true rfl⟩ (hP.sub [1, 2, 3, 4] rfl) (hK.sub [0] rfl) 0 rfl rfl rfl hl.1 rfl (Nat.le_of_ble_eq_true rfl) ⟨Nat.zero_le _, Nat.zero_le _⟩ d_FM_has_12 ?_
    refine lv_if_eq (tgt := 22) hx hb d_FM_has_15 (by decide) (fun c0 => ?_) (fun c0 => ?_)
    · have c_15 : (fm_thI B x) = false := fm_bI_f c0
      refine lv_iconst (v := nI (0)) hx hb d_FM_has_22 (by decide) ?_
      exact W.zret (ty := .boolean) hx hb hr (rfl) (fun t ht hW => ⟨_, rfl, fm_bI_0 c_15, ht⟩) (fun q hq => by cases hq) d_FM_has_23
    · have c_15 : (fm_thI B x) = true := fm_bI_t c0
      refine lv_iconst (v := nI (1)) hx hb d_FM_has_18 (by decide) ?_
      refine lv_goto (tgt := 23) hx hb d_FM_has_19 (by decide) ?_
      exact W.zret (ty := .boolean) hx hb hr (rfl) (fun t ht hW => ⟨_, rfl, fm_bI_1 c_15, ht⟩) (fun q hq => by cases hq) d_FM_has_23
theorem d_FM_rowIsThere_0 : decode b_FM_rowIsThere 0 = .ok (.iconst 0, 1) := by decide +kernel
theorem d_FM_rowIsThere_1 : decode b_FM_rowIsThere 1 = .ok (.istore_n 1, 1) := by decide +kernel
theorem d_FM_rowIsThere_2 : decode b_FM_rowIsThere 2 = .ok (.iload_n 1, 1) := by decide +kernel
theorem d_FM_rowIsThere_3 : decode b_FM_rowIsThere 3 = .ok (.aload_n 0, 1) := by decide +kernel
theorem d_FM_rowIsThere_4 : decode b_FM_rowIsThere 4 = .ok (.getfield 27, 3) := by decide +kernel
theorem d_FM_rowIsThere_7 : decode b_FM_rowIsThere 7 = .ok (.if_icmp .ge 36, 3) := by decide +kernel
theorem d_FM_rowIsThere_10 : decode b_FM_rowIsThere 10 = .ok (.iload_n 1, 1) := by decide +kernel
theorem d_FM_rowIsThere_11 : decode b_FM_rowIsThere 11 = .ok (.aload_n 0, 1) := by decide +kernel
theorem d_FM_rowIsThere_12 : decode b_FM_rowIsThere 12 = .ok (.getfield 23, 3) := by decide +kernel
theorem d_FM_rowIsThere_15 : decode b_FM_rowIsThere 15 = .ok (.arraylength, 1) := by decide +kernel
theorem d_FM_rowIsThere_16 : decode b_FM_rowIsThere 16 = .ok (.if_icmp .ge 27, 3) := by decide +kernel
theorem d_FM_rowIsThere_19 : decode b_FM_rowIsThere 19 = .ok (.aload_n 0, 1) := by decide +kernel
theorem d_FM_rowIsThere_20 : decode b_FM_rowIsThere 20 = .ok (.getfield 34, 3) := by decide +kernel
theorem d_FM_rowIsThere_23 : decode b_FM_rowIsThere 23 = .ok (.aload_n 0, 1) := by decide +kernel
theorem d_FM_rowIsThere_24 : decode b_FM_rowIsThere 24 = .ok (.getfield 23, 3) := by decide +kernel
theorem d_FM_rowIsThere_27 : decode b_FM_rowIsThere 27 = .ok (.iload_n 1, 1) := by decide +kernel
theorem d_FM_rowIsThere_28 : decode b_FM_rowIsThere 28 = .ok (.iaload, 1) := by decide +kernel
theorem d_FM_rowIsThere_29 : decode b_FM_rowIsThere 29 = .ok (.invokevirtual 119, 3) := by decide +kernel
theorem d_FM_rowIsThere_32 : decode b_FM_rowIsThere 32 = .ok (.ifCond .ne 5, 3) := by decide +kernel
theorem d_FM_rowIsThere_35 : decode b_FM_rowIsThere 35 = .ok (.iconst 0, 1) := by decide +kernel
theorem d_FM_rowIsThere_36 : decode b_FM_rowIsThere 36 = .ok (.ireturn, 1) := by decide +kernel
theorem d_FM_rowIsThere_37 : decode b_FM_rowIsThere 37 = .ok (.iinc 1 1, 3) := by decide +kernel
theorem d_FM_rowIsThere_40 : decode b_FM_rowIsThere 40 = .ok (.goto (-38), 3) := by decide +kernel
theorem d_FM_rowIsThere_43 : decode b_FM_rowIsThere 43 = .ok (.iconst 1, 1) := by decide +kernel
theorem d_FM_rowIsThere_44 : decode b_FM_rowIsThere 44 = .ok (.ireturn, 1) := by decide +kernel
set_option maxHeartbeats 4000000 in
set_option maxRecDepth 100000 in
theorem c_FM_rowIsThere (l : Launch) (dC : Nat → ClassId) (dI : Nat → Nat → Nat) (h : Nat) (bf : Nat) (li : Nat) (ra : Nat) (o : Nat) (sp : Nat) (ld : Int32) (wa : Nat) (sa : Nat) (la : Nat) (s0 : Nat) (cI : ClassId) (B : Nat → Nat) (w : Nat → Int32) (st : Nat → Int32) (ln : Nat → Int32) (rn : Nat) (rw : Nat → Int32) (r : Nat → Nat) (hF : fm_FO B w st ln) (hrn : rn ≤ 64) (hrw : ∀ i, i < rn → rw i = nI (r i) ∧ r i ≤ 255) : fm_M l (dC, dI) y_FM_rowIsThere w_FM_rowIsThere ({ frames := 3, cells := 0, slots := 0, locals := 65 }) [.ref h] [(h, .inr (3, [.ref bf, .ref li, .ref ra, .int (nI (rn)), .ref o, .ref sp, .int (ld)])), (ra, .inl (cI, 64, .inl (rw))), (o, .inr (1, [.ref wa, .ref sa, .ref la, .int (nI (fm_HF B 2)), .int (nI (fm_HF B 3)), .int (nI (s0)), .int (nI (fm_z s0)), .int (nI (fm_h s0))])), (wa, .inl (cI, 2048, .inl (w))), (sa, .inl (cI, 10, .inl (st))), (la, .inl (cI, 10, .inl (ln)))] [(cI, .int)] ((fm_bI (fm_all rn (fun i => fm_th B (r i))))) := by
  refine Met.ofW (cc := b_FM_rowIsThere) (maxL := 2) (ret := (some .boolean)) (by decide) rfl ?_
  intro pg ev s m args below meth cd s₁ BD hml hv
  obtain ⟨rfl, hP, hK⟩ := hv
  have hx := BD.exec
  have hb := BD.bytes
  have hr := BD.returns
  have hts := atoms_spec (ws := w_FM_rowIsThere) BD.pre
  have ht : ∀ w ∈ fm_T, w.before _ s = true := fun w h => hts w (List.mem_cons_of_mem _ h)
  have hown : s.vm.findClass R_FM = some m.cls := findClass_of_methodNamed BD.named
  have hlocks := BD.notSynchronized
  have S : CallFix pg m cd b_FM_rowIsThere 2 s _ w_FM_rowIsThere R_FM := ⟨hx, hb, hml, hown, hts⟩
  have hl := lv_entry ([.ref h]) (n := 2) (Nat.le_of_ble_eq_true rfl)
  rw [lg_entry_eq]
  generalize (lg_sl ([.ref h]) ++ List.replicate (2 - (lg_sl ([.ref h])).length) Slot.unset).toArray = ls at hl ⊢
  have hl : lv_has ls 2 [(0, .ref h)] := hl
  refine lv_iconst (v := nI (0)) hx hb d_FM_rowIsThere_0 (by decide) ?_
  refine lv_istore_n (lv' := [(1, .int (nI (0))), (0, .ref h)]) hx hb d_FM_rowIsThere_1 rfl hl (by decide) rfl (fun ls hl => ?_)
  refine fm_loop1 (LV := fun (i : Nat) => [(0, .ref h), (1, .int (nI (i)))]) (I := fun (i : Nat) => i ≤ rn ∧ fm_all i (fun i => fm_th B (r i)) = true) (μ := fun (i : Nat) => rn - i) ?_ 0 (⟨Nat.zero_le _, rfl⟩) ls (lv_sub hl [1, 0] rfl)
  intro i hI_2 ih_2 ls hl
  have hl : lv_has ls 2 [(0, .ref h), (1, .int (nI (i)))] := hl
  obtain ⟨hi, hal⟩ := hI_2
  refine lv_iload_n hx hb d_FM_rowIsThere_2 rfl (lv_at hl 1 rfl) ?_
  refine lv_aload_n hx hb d_FM_rowIsThere_3 rfl (lv_at hl 0 rfl) ?_
  refine va_get (D := (dC, dI)) (ci := 3) (v := .int (nI (rn))) (C := R_FM) (T := F_FM) (N := 7) hx hb ht i_FM hown hK hP 0 rfl rfl 3 (by decide) (ht _ q_1_102) (fun _ h9 => h9) rfl d_FM_rowIsThere_4 ?_
  refine lv_icmp_ge (tgt := 43) hx hb d_FM_rowIsThere_7 (by decide) (fun c0 => ?_) (fun c0 => ?_)
  · have c_7 : rn ≤ i := (nI_leI (a := rn) (b := i) (by omega) (by omega)).mp c0
    refine lv_iconst (v := nI (1)) hx hb d_FM_rowIsThere_43 (by decide) ?_
    exact W.zret (ty := .boolean) hx hb hr (rfl) (fun t ht hW => ⟨_, rfl, fm_bI_1 (by rw [← hal, show i = rn by omega]), ht⟩) (fun q hq => by cases hq) d_FM_rowIsThere_44
  · have c_7 : ¬ (rn ≤ i) := fun z => c0 ((nI_leI (a := rn) (b := i) (by omega) (by omega)).mpr z)
    refine lv_iload_n hx hb d_FM_rowIsThere_10 rfl (lv_at hl 1 rfl) ?_
    refine lv_aload_n hx hb d_FM_rowIsThere_11 rfl (lv_at hl 0 rfl) ?_
    refine va_get (D := (dC, dI)) (ci := 3) (v := .ref ra) (C := R_FM) (T := F_FM) (N := 7) hx hb ht i_FM hown hK hP 0 rfl rfl 2 (by decide) (ht _ q_1_101) (fun _ h9 => h9) rfl d_FM_rowIsThere_12 ?_
    refine va_alen hx hb hK hP 1 0 rfl rfl (v := nI (64)) rfl d_FM_rowIsThere_15 ?_
    refine lv_icmp_ge (tgt := 43) hx hb d_FM_rowIsThere_16 (by decide) (fun c0 => ?_) (fun c0 => ?_)
    · have c_16 : 64 ≤ i := (nI_leI (a := 64) (b := i) (by omega) (by omega)).mp c0
      exact absurd c_16 (by omega)
    · have c_16 : ¬ (64 ≤ i) := fun z => c0 ((nI_leI (a := 64) (b := i) (by omega) (by omega)).mpr z)
      refine lv_aload_n hx hb d_FM_rowIsThere_19 rfl (lv_at hl 0 rfl) ?_
      refine va_get (D := (dC, dI)) (ci := 3) (v := .ref o) (C := R_FM) (T := F_FM) (N := 7) hx hb ht i_FM hown hK hP 0 rfl rfl 4 (by decide) (ht _ q_1_103) (fun _ h9 => h9) rfl d_FM_rowIsThere_20 ?_
      refine lv_aload_n hx hb d_FM_rowIsThere_23 rfl (lv_at hl 0 rfl) ?_
      refine va_get (D := (dC, dI)) (ci := 3) (v := .ref ra) (C := R_FM) (T := F_FM) (N := 7) hx hb ht i_FM hown hK hP 0 rfl rfl 2 (by decide) (ht _ q_1_101) (fun _ h9 => h9) rfl d_FM_rowIsThere_24 ?_
      refine lv_iload_n hx hb d_FM_rowIsThere_27 rfl (lv_at hl 1 rfl) ?_
      refine va_iald hx hb hK hP 1 0 rfl rfl (vp_in_nI (by omega) (by omega)) d_FM_rowIsThere_28 ?_
      refine fm_tw (z := rw (i)) (by rw [nI_clamp (by omega)]) ?_
      obtain ⟨hri, hr255⟩ := hrw i (by omega)
      refine fm_tw (z := nI (r i)) (hri) ?_
      refine fm_cv S (c_FO_isThereN l dC dI o wa sa la (nI (s0)) (nI (fm_z s0)) (nI (fm_h s0)) cI B w st ln (r i) (hF) (by omega)) rfl rfl k_FO_isThere q_1_145 ⟨Nat.le_of_ble_eq_true rfl, Nat.le_of_ble_eq_true rfl⟩ (hP.sub [2, 3, 4, 5] rfl) (hK.sub [0] rfl) 0 rfl rfl rfl hl.1 rfl (Nat.le_of_ble_eq_true rfl) ⟨Nat.zero_le _, Nat.zero_le _⟩ d_FM_rowIsThere_29 ?_
      refine lv_if_ne (tgt := 37) hx hb d_FM_rowIsThere_32 (by decide) (fun c0 => ?_) (fun c0 => ?_)
      · have c_32 : (fm_th B (r i)) = true := fm_bI_t c0
        refine lv_iinc (v := nI (i + 1)) (lv' := [(1, .int (nI (i + 1))), (0, .ref h)]) hx hb d_FM_rowIsThere_37 hl (k := 1) rfl (nI_1 _) (by decide) rfl (fun ls hl => ?_)
        refine lv_goto (tgt := 2) hx hb d_FM_rowIsThere_40 (by decide) ?_
        exact ih_2 (i + 1) ls (⟨by omega, by rw [fm_all, hal, Bool.true_and]; exact c_32⟩) (by omega) (lv_sub hl [1, 0] rfl)
      · have c_32 : (fm_th B (r i)) = false := fm_bI_f c0
        refine lv_iconst (v := nI (0)) hx hb d_FM_rowIsThere_35 (by decide) ?_
        exact W.zret (ty := .boolean) hx hb hr (rfl) (fun t ht hW => ⟨_, rfl, fm_bI_0 (fm_all_no (k := i) (by omega) c_32), ht⟩) (fun q hq => by cases hq) d_FM_rowIsThere_36
theorem d_FM_total_0 : decode b_FM_total 0 = .ok (.aload_n 0, 1) := by decide +kernel
theorem d_FM_total_1 : decode b_FM_total 1 = .ok (.getfield 19, 3) := by decide +kernel
theorem d_FM_total_4 : decode b_FM_total 4 = .ok (.aload_n 0, 1) := by decide +kernel
theorem d_FM_total_5 : decode b_FM_total 5 = .ok (.getfield 34, 3) := by decide +kernel
theorem d_FM_total_8 : decode b_FM_total 8 = .ok (.invokevirtual 190, 3) := by decide +kernel
theorem d_FM_total_11 : decode b_FM_total 11 = .ok (.lreturn, 1) := by decide +kernel
set_option maxHeartbeats 4000000 in
set_option maxRecDepth 100000 in
theorem c_FM_total0 (l : Launch) (dC : Nat → ClassId) (dI : Nat → Nat → Nat) (h : Nat) (bf : Nat) (li : Nat) (ra : Nat) (rl : Int32) (o : Nat) (sp : Nat) (ld : Int32) (pa : Nat) (va : Nat) (na : Nat) (le : Int32)  : fm_ML l (dC, dI) y_FM_total w_FM_total ({ frames := 1, cells := 0, slots := 0, locals := 24 }) [.ref h] [(h, .inr (3, [.ref bf, .ref li, .ref ra, .int (rl), .ref o, .ref sp, .int (ld)])), (li, .inr (2, [.ref pa, .ref va, .ref na, .int (le), .int (nI (0))]))] [] (0) := by
  refine Met.ofW (cc := b_FM_total) (maxL := 1) (ret := (some .long)) (by decide) rfl ?_
  intro pg ev s m args below meth cd s₁ BD hml hv
  obtain ⟨rfl, hP, hK⟩ := hv
  have hx := BD.exec
  have hb := BD.bytes
  have hr := BD.returns
  have hts := atoms_spec (ws := w_FM_total) BD.pre
  have ht : ∀ w ∈ fm_T, w.before _ s = true := fun w h => hts w (List.mem_cons_of_mem _ h)
  have hown : s.vm.findClass R_FM = some m.cls := findClass_of_methodNamed BD.named
  have hlocks := BD.notSynchronized
  have S : CallFix pg m cd b_FM_total 1 s _ w_FM_total R_FM := ⟨hx, hb, hml, hown, hts⟩
  have hl := lv_entry ([.ref h]) (n := 1) (Nat.le_of_ble_eq_true rfl)
  rw [lg_entry_eq]
  generalize (lg_sl ([.ref h]) ++ List.replicate (1 - (lg_sl ([.ref h])).length) Slot.unset).toArray = ls at hl ⊢
  have hl : lv_has ls 1 [(0, .ref h)] := hl
  refine lv_aload_n hx hb d_FM_total_0 rfl (lv_at hl 0 rfl) ?_
  refine va_get (D := (dC, dI)) (ci := 3) (v := .ref li) (C := R_FM) (T := F_FM) (N := 7) hx hb ht i_FM hown hK hP 0 rfl rfl 1 (by decide) (ht _ q_1_100) (fun _ h9 => h9) rfl d_FM_total_1 ?_
  refine lv_aload_n hx hb d_FM_total_4 rfl (lv_at hl 0 rfl) ?_
  refine va_get (D := (dC, dI)) (ci := 3) (v := .ref o) (C := R_FM) (T := F_FM) (N := 7) hx hb ht i_FM hown hK hP 0 rfl rfl 4 (by decide) (ht _ q_1_103) (fun _ h9 => h9) rfl d_FM_total_5 ?_
  refine fm_clv S (c_LI_width0 l dC dI li pa va na le o ) rfl rfl k_LI_width q_1_168 ⟨Nat.le_of_ble_eq_true rfl, Nat.le_of_ble_eq_true rfl⟩ (hP.sub [1] rfl) (hK.sub [] rfl) 0 rfl rfl rfl hl.1 rfl (Nat.le_of_ble_eq_true rfl) ⟨Nat.zero_le _, Nat.zero_le _⟩ d_FM_total_8 ?_
  exact W.lret hx hb hr (fun t ht hW => ⟨_, rfl, rfl, ht⟩) (fun q hq => by cases hq) d_FM_total_11
set_option maxHeartbeats 4000000 in
set_option maxRecDepth 100000 in
theorem c_FM_total1 (l : Launch) (dC : Nat → ClassId) (dI : Nat → Nat → Nat) (h : Nat) (bf : Nat) (li : Nat) (ra : Nat) (rl : Int32) (o : Nat) (sp : Nat) (ld : Int32) (pa : Nat) (va : Nat) (na : Nat) (le : Int32) (cn : Nat) (cZ : ClassId) (vl : Nat → Int32) (kn : Nat → Int32) (wa : Nat) (sa : Nat) (la : Nat) (s0 : Nat) (cI : ClassId) (B : Nat → Nat) (w : Nat → Int32) (st : Nat → Int32) (ln : Nat → Int32) (hcn : cn ≤ 1066) (hF : fm_FO B w st ln) (hz : fm_all (fm_WD B 1) (fm_size1 B) = true) (hs : s0 < 134217728) (hvl : ∀ i, i < cn → kn i ≠ 0 ∨ ∃ c, vl i = nI c ∧ fm_th B c = true) : fm_ML l (dC, dI) y_FM_total w_FM_total ({ frames := 4, cells := 0, slots := 0, locals := 91 }) [.ref h] [(h, .inr (3, [.ref bf, .ref li, .ref ra, .int (rl), .ref o, .ref sp, .int (ld)])), (li, .inr (2, [.ref pa, .ref va, .ref na, .int (le), .int (nI (cn))])), (va, .inl (cI, 1066, .inl (vl))), (na, .inl (cZ, 1066, .inl (kn))), (o, .inr (1, [.ref wa, .ref sa, .ref la, .int (nI (fm_HF B 2)), .int (nI (fm_HF B 3)), .int (nI (s0)), .int (nI (fm_z s0)), .int (nI (fm_h s0))])), (wa, .inl (cI, 2048, .inl (w))), (sa, .inl (cI, 10, .inl (st))), (la, .inl (cI, 10, .inl (ln)))] [(cI, .int), (cZ, .boolean)] (fm_totC B s0 vl kn cn) := by
  refine Met.ofW (cc := b_FM_total) (maxL := 1) (ret := (some .long)) (by decide) rfl ?_
  intro pg ev s m args below meth cd s₁ BD hml hv
  obtain ⟨rfl, hP, hK⟩ := hv
  have hx := BD.exec
  have hb := BD.bytes
  have hr := BD.returns
  have hts := atoms_spec (ws := w_FM_total) BD.pre
  have ht : ∀ w ∈ fm_T, w.before _ s = true := fun w h => hts w (List.mem_cons_of_mem _ h)
  have hown : s.vm.findClass R_FM = some m.cls := findClass_of_methodNamed BD.named
  have hlocks := BD.notSynchronized
  have S : CallFix pg m cd b_FM_total 1 s _ w_FM_total R_FM := ⟨hx, hb, hml, hown, hts⟩
  have hl := lv_entry ([.ref h]) (n := 1) (Nat.le_of_ble_eq_true rfl)
  rw [lg_entry_eq]
  generalize (lg_sl ([.ref h]) ++ List.replicate (1 - (lg_sl ([.ref h])).length) Slot.unset).toArray = ls at hl ⊢
  have hl : lv_has ls 1 [(0, .ref h)] := hl
  refine lv_aload_n hx hb d_FM_total_0 rfl (lv_at hl 0 rfl) ?_
  refine va_get (D := (dC, dI)) (ci := 3) (v := .ref li) (C := R_FM) (T := F_FM) (N := 7) hx hb ht i_FM hown hK hP 0 rfl rfl 1 (by decide) (ht _ q_1_100) (fun _ h9 => h9) rfl d_FM_total_1 ?_
  refine lv_aload_n hx hb d_FM_total_4 rfl (lv_at hl 0 rfl) ?_
  refine va_get (D := (dC, dI)) (ci := 3) (v := .ref o) (C := R_FM) (T := F_FM) (N := 7) hx hb ht i_FM hown hK hP 0 rfl rfl 4 (by decide) (ht _ q_1_103) (fun _ h9 => h9) rfl d_FM_total_5 ?_
  refine fm_clv S (c_LI_width l dC dI li pa va na le cn cZ vl kn o wa sa la (nI (s0)) s0 cI B w st ln (by omega) (hF) (hz) (hs) (hvl)) rfl rfl k_LI_width q_1_168 ⟨Nat.le_of_ble_eq_true rfl, Nat.le_of_ble_eq_true rfl⟩ (hP.sub [1, 2, 3, 4, 5, 6, 7] rfl) (hK.sub [0, 1] rfl) 0 rfl rfl rfl hl.1 rfl (Nat.le_of_ble_eq_true rfl) ⟨Nat.zero_le _, Nat.zero_le _⟩ d_FM_total_8 ?_
  exact W.lret hx hb hr (fun t ht hW => ⟨_, rfl, rfl, ht⟩) (fun q hq => by cases hq) d_FM_total_11
theorem d_FM_requireFont_0 : decode b_FM_requireFont 0 = .ok (.aload_n 0, 1) := by decide +kernel
theorem d_FM_requireFont_1 : decode b_FM_requireFont 1 = .ok (.getfield 41, 3) := by decide +kernel
theorem d_FM_requireFont_4 : decode b_FM_requireFont 4 = .ok (.ifCond .ne 13, 3) := by decide +kernel
theorem d_FM_requireFont_7 : decode b_FM_requireFont 7 = .ok (.new 193, 3) := by decide +kernel
theorem d_FM_requireFont_10 : decode b_FM_requireFont 10 = .ok (.dup, 1) := by decide +kernel
theorem d_FM_requireFont_11 : decode b_FM_requireFont 11 = .ok (.ldc 195, 2) := by decide +kernel
theorem d_FM_requireFont_13 : decode b_FM_requireFont 13 = .ok (.invokespecial 197, 3) := by decide +kernel
theorem d_FM_requireFont_16 : decode b_FM_requireFont 16 = .ok (.athrow, 1) := by decide +kernel
theorem d_FM_requireFont_17 : decode b_FM_requireFont 17 = .ok (.return_, 1) := by decide +kernel
set_option maxHeartbeats 4000000 in
set_option maxRecDepth 100000 in
theorem c_FM_requireFont (l : Launch) (dC : Nat → ClassId) (dI : Nat → Nat → Nat) (h : Nat) (bf : Nat) (li : Nat) (ra : Nat) (rl : Int32) (o : Nat) (sp : Nat)  : fm_MV l (dC, dI) y_FM_requireFont w_FM_requireFont ({ frames := 0, cells := 0, slots := 0, locals := 0 }) [.ref h] [(h, .inr (3, [.ref bf, .ref li, .ref ra, .int (rl), .ref o, .ref sp, .int (nI (1))]))] [] := by
  refine Met.ofW (cc := b_FM_requireFont) (maxL := 1) (ret := none) (by decide) rfl ?_
  intro pg ev s m args below meth cd s₁ BD hml hv
  obtain ⟨rfl, hP, hK⟩ := hv
  have hx := BD.exec
  have hb := BD.bytes
  have hr := BD.returns
  have hts := atoms_spec (ws := w_FM_requireFont) BD.pre
  have ht : ∀ w ∈ fm_T, w.before _ s = true := fun w h => hts w (List.mem_cons_of_mem _ h)
  have hown : s.vm.findClass R_FM = some m.cls := findClass_of_methodNamed BD.named
  have hlocks := BD.notSynchronized
  have S : CallFix pg m cd b_FM_requireFont 1 s _ w_FM_requireFont R_FM := ⟨hx, hb, hml, hown, hts⟩
  have hl := lv_entry ([.ref h]) (n := 1) (Nat.le_of_ble_eq_true rfl)
  rw [lg_entry_eq]
  generalize (lg_sl ([.ref h]) ++ List.replicate (1 - (lg_sl ([.ref h])).length) Slot.unset).toArray = ls at hl ⊢
  have hl : lv_has ls 1 [(0, .ref h)] := hl
  refine lv_aload_n hx hb d_FM_requireFont_0 rfl (lv_at hl 0 rfl) ?_
  refine va_get (D := (dC, dI)) (ci := 3) (v := .int (nI (1))) (C := R_FM) (T := F_FM) (N := 7) hx hb ht i_FM hown hK hP 0 rfl rfl 6 (by decide) (ht _ q_1_105) (fun _ h9 => h9) rfl d_FM_requireFont_1 ?_
  refine lv_if_ne (tgt := 17) hx hb d_FM_requireFont_4 (by decide) (fun c0 => ?_) (fun c0 => ?_)
  · have c_4 : ¬ (1 = 0) := fun z => c0 ((nI_eq (a := 1) (b := 0) (by omega) (by omega)).mpr z)
    exact W.vret hx hb hr (fun t ht hW => ⟨rfl, trivial, ht⟩) (fun q hq => by cases hq) d_FM_requireFont_17
  · have c_4 : 1 = 0 := (nI_eq (a := 1) (b := 0) (by omega) (by omega)).mp c0
    exact absurd c_4 (by decide)
theorem d_FM_requireThere_0 : decode b_FM_requireThere 0 = .ok (.aload_n 0, 1) := by decide +kernel
theorem d_FM_requireThere_1 : decode b_FM_requireThere 1 = .ok (.getfield 34, 3) := by decide +kernel
theorem d_FM_requireThere_4 : decode b_FM_requireThere 4 = .ok (.iload_n 1, 1) := by decide +kernel
theorem d_FM_requireThere_5 : decode b_FM_requireThere 5 = .ok (.invokevirtual 119, 3) := by decide +kernel
theorem d_FM_requireThere_8 : decode b_FM_requireThere 8 = .ok (.ifCond .ne 13, 3) := by decide +kernel
theorem d_FM_requireThere_11 : decode b_FM_requireThere 11 = .ok (.new 114, 3) := by decide +kernel
theorem d_FM_requireThere_14 : decode b_FM_requireThere 14 = .ok (.dup, 1) := by decide +kernel
theorem d_FM_requireThere_15 : decode b_FM_requireThere 15 = .ok (.ldc 198, 2) := by decide +kernel
theorem d_FM_requireThere_17 : decode b_FM_requireThere 17 = .ok (.invokespecial 118, 3) := by decide +kernel
theorem d_FM_requireThere_20 : decode b_FM_requireThere 20 = .ok (.athrow, 1) := by decide +kernel
theorem d_FM_requireThere_21 : decode b_FM_requireThere 21 = .ok (.return_, 1) := by decide +kernel
set_option maxHeartbeats 4000000 in
set_option maxRecDepth 100000 in
theorem c_FM_requireThere (l : Launch) (dC : Nat → ClassId) (dI : Nat → Nat → Nat) (h : Nat) (bf : Nat) (li : Nat) (ra : Nat) (rl : Int32) (o : Nat) (sp : Nat) (wa : Nat) (sa : Nat) (la : Nat) (s0 : Nat) (cI : ClassId) (B : Nat → Nat) (w : Nat → Int32) (st : Nat → Int32) (ln : Nat → Int32) (c : Nat) (hF : fm_FO B w st ln) (hth : fm_th B c = true) (hc31 : c < 2 ^ 31) : fm_MV l (dC, dI) y_FM_requireThere w_FM_requireThere ({ frames := 3, cells := 0, slots := 0, locals := 65 }) [.ref h, .int (nI (c))] [(h, .inr (3, [.ref bf, .ref li, .ref ra, .int (rl), .ref o, .ref sp, .int (nI (1))])), (o, .inr (1, [.ref wa, .ref sa, .ref la, .int (nI (fm_HF B 2)), .int (nI (fm_HF B 3)), .int (nI (s0)), .int (nI (fm_z s0)), .int (nI (fm_h s0))])), (wa, .inl (cI, 2048, .inl (w))), (sa, .inl (cI, 10, .inl (st))), (la, .inl (cI, 10, .inl (ln)))] [(cI, .int)] := by
  refine Met.ofW (cc := b_FM_requireThere) (maxL := 2) (ret := none) (by decide) rfl ?_
  intro pg ev s m args below meth cd s₁ BD hml hv
  obtain ⟨rfl, hP, hK⟩ := hv
  have hx := BD.exec
  have hb := BD.bytes
  have hr := BD.returns
  have hts := atoms_spec (ws := w_FM_requireThere) BD.pre
  have ht : ∀ w ∈ fm_T, w.before _ s = true := fun w h => hts w (List.mem_cons_of_mem _ h)
  have hown : s.vm.findClass R_FM = some m.cls := findClass_of_methodNamed BD.named
  have hlocks := BD.notSynchronized
  have S : CallFix pg m cd b_FM_requireThere 2 s _ w_FM_requireThere R_FM := ⟨hx, hb, hml, hown, hts⟩
  have hl := lv_entry ([.ref h, .int (nI (c))]) (n := 2) (Nat.le_of_ble_eq_true rfl)
  rw [lg_entry_eq]
  generalize (lg_sl ([.ref h, .int (nI (c))]) ++ List.replicate (2 - (lg_sl ([.ref h, .int (nI (c))])).length) Slot.unset).toArray = ls at hl ⊢
  have hl : lv_has ls 2 [(0, .ref h), (1, .int (nI (c)))] := hl
  refine lv_aload_n hx hb d_FM_requireThere_0 rfl (lv_at hl 0 rfl) ?_
  refine va_get (D := (dC, dI)) (ci := 3) (v := .ref o) (C := R_FM) (T := F_FM) (N := 7) hx hb ht i_FM hown hK hP 0 rfl rfl 4 (by decide) (ht _ q_1_103) (fun _ h9 => h9) rfl d_FM_requireThere_1 ?_
  refine lv_iload_n hx hb d_FM_requireThere_4 rfl (lv_at hl 1 rfl) ?_
  refine fm_cv S (c_FO_isThereN l dC dI o wa sa la (nI (s0)) (nI (fm_z s0)) (nI (fm_h s0)) cI B w st ln c (hF) (by omega)) rfl rfl k_FO_isThere q_1_145 ⟨Nat.le_of_ble_eq_true rfl, Nat.le_of_ble_eq_true rfl⟩ (hP.sub [1, 2, 3, 4] rfl) (hK.sub [0] rfl) 0 rfl rfl rfl hl.1 rfl (Nat.le_of_ble_eq_true rfl) ⟨Nat.zero_le _, Nat.zero_le _⟩ d_FM_requireThere_5 ?_
  refine lv_if_ne (tgt := 21) hx hb d_FM_requireThere_8 (by decide) (fun c0 => ?_) (fun c0 => ?_)
  · have c_8 : (fm_th B c) = true := fm_bI_t c0
    exact W.vret hx hb hr (fun t ht hW => ⟨rfl, trivial, ht⟩) (fun q hq => by cases hq) d_FM_requireThere_21
  · have c_8 : (fm_th B c) = false := fm_bI_f c0
    exact absurd c_8 (by rw [hth]; decide)
theorem d_FM_requireThereOrEdge_0 : decode b_FM_requireThereOrEdge 0 = .ok (.iload_n 1, 1) := by decide +kernel
theorem d_FM_requireThereOrEdge_1 : decode b_FM_requireThereOrEdge 1 = .ok (.sipush 256, 3) := by decide +kernel
theorem d_FM_requireThereOrEdge_4 : decode b_FM_requireThereOrEdge 4 = .ok (.if_icmp .eq 8, 3) := by decide +kernel
theorem d_FM_requireThereOrEdge_7 : decode b_FM_requireThereOrEdge 7 = .ok (.aload_n 0, 1) := by decide +kernel
theorem d_FM_requireThereOrEdge_8 : decode b_FM_requireThereOrEdge 8 = .ok (.iload_n 1, 1) := by decide +kernel
theorem d_FM_requireThereOrEdge_9 : decode b_FM_requireThereOrEdge 9 = .ok (.invokevirtual 122, 3) := by decide +kernel
theorem d_FM_requireThereOrEdge_12 : decode b_FM_requireThereOrEdge 12 = .ok (.return_, 1) := by decide +kernel
set_option maxHeartbeats 4000000 in
set_option maxRecDepth 100000 in
theorem c_FM_requireThereOrEdge (l : Launch) (dC : Nat → ClassId) (dI : Nat → Nat → Nat) (h : Nat) (bf : Nat) (li : Nat) (ra : Nat) (rl : Int32) (o : Nat) (sp : Nat) (wa : Nat) (sa : Nat) (la : Nat) (s0 : Nat) (cI : ClassId) (B : Nat → Nat) (w : Nat → Int32) (st : Nat → Int32) (ln : Nat → Int32) (c : Nat) (hF : fm_FO B w st ln) (hxx : c = 256 ∨ fm_th B c = true) (hc31 : c < 2 ^ 31) : fm_MV l (dC, dI) y_FM_requireThereOrEdge w_FM_requireThereOrEdge ({ frames := 4, cells := 0, slots := 0, locals := 86 }) [.ref h, .int (nI (c))] [(h, .inr (3, [.ref bf, .ref li, .ref ra, .int (rl), .ref o, .ref sp, .int (nI (1))])), (o, .inr (1, [.ref wa, .ref sa, .ref la, .int (nI (fm_HF B 2)), .int (nI (fm_HF B 3)), .int (nI (s0)), .int (nI (fm_z s0)), .int (nI (fm_h s0))])), (wa, .inl (cI, 2048, .inl (w))), (sa, .inl (cI, 10, .inl (st))), (la, .inl (cI, 10, .inl (ln)))] [(cI, .int)] := by
  refine Met.ofW (cc := b_FM_requireThereOrEdge) (maxL := 2) (ret := none) (by decide) rfl ?_
  intro pg ev s m args below meth cd s₁ BD hml hv
  obtain ⟨rfl, hP, hK⟩ := hv
  have hx := BD.exec
  have hb := BD.bytes
  have hr := BD.returns
  have hts := atoms_spec (ws := w_FM_requireThereOrEdge) BD.pre
  have ht : ∀ w ∈ fm_T, w.before _ s = true := fun w h => hts w (List.mem_cons_of_mem _ h)
  have hown : s.vm.findClass R_FM = some m.cls := findClass_of_methodNamed BD.named
  have hlocks := BD.notSynchronized
  have S : CallFix pg m cd b_FM_requireThereOrEdge 2 s _ w_FM_requireThereOrEdge R_FM := ⟨hx, hb, hml, hown, hts⟩
  have hl := lv_entry ([.ref h, .int (nI (c))]) (n := 2) (Nat.le_of_ble_eq_true rfl)
  rw [lg_entry_eq]
  generalize (lg_sl ([.ref h, .int (nI (c))]) ++ List.replicate (2 - (lg_sl ([.ref h, .int (nI (c))])).length) Slot.unset).toArray = ls at hl ⊢
  have hl : lv_has ls 2 [(0, .ref h), (1, .int (nI (c)))] := hl
  refine lv_iload_n hx hb d_FM_requireThereOrEdge_0 rfl (lv_at hl 1 rfl) ?_
  refine lv_sipush (v := nI (256)) hx hb d_FM_requireThereOrEdge_1 (by decide) ?_
  refine lv_icmp_eq (tgt := 12) hx hb d_FM_requireThereOrEdge_4 (by decide) (fun c0 => ?_) (fun c0 => ?_)
  · have c_4 : c = 256 := (nI_eq (a := c) (b := 256) (by omega) (by omega)).mp c0
    exact W.vret hx hb hr (fun t ht hW => ⟨rfl, trivial, ht⟩) (fun q hq => by cases hq) d_FM_requireThereOrEdge_12
  · have c_4 : ¬ (c = 256) := fun z => c0 ((nI_eq (a := c) (b := 256) (by omega) (by omega)).mpr z)
    refine lv_aload_n hx hb d_FM_requireThereOrEdge_7 rfl (lv_at hl 0 rfl) ?_
    refine lv_iload_n hx hb d_FM_requireThereOrEdge_8 rfl (lv_at hl 1 rfl) ?_
    refine fm_cnv S (c_FM_requireThere l dC dI h bf li ra rl o sp wa sa la s0 cI B w st ln c (hF) (hxx.resolve_left c_4) (by omega)) rfl rfl k_FM_requireThere q_2_203 ⟨Nat.le_of_ble_eq_true rfl, Nat.le_of_ble_eq_true rfl⟩ (hP.sub [0, 1, 2, 3, 4] rfl) (hK.sub [0] rfl) 0 rfl rfl rfl hl.1 rfl (Nat.le_of_ble_eq_true rfl) ⟨Nat.zero_le _, Nat.zero_le _⟩ d_FM_requireThereOrEdge_9 ?_
    exact W.vret hx hb hr (fun t ht hW => ⟨rfl, trivial, ht⟩) (fun q hq => by cases hq) d_FM_requireThereOrEdge_12
theorem d_FM_requireItem_0 : decode b_FM_requireItem 0 = .ok (.iload_n 1, 1) := by decide +kernel
theorem d_FM_requireItem_1 : decode b_FM_requireItem 1 = .ok (.ifCond .lt 14, 3) := by decide +kernel
theorem d_FM_requireItem_4 : decode b_FM_requireItem 4 = .ok (.iload_n 1, 1) := by decide +kernel
theorem d_FM_requireItem_5 : decode b_FM_requireItem 5 = .ok (.aload_n 0, 1) := by decide +kernel
theorem d_FM_requireItem_6 : decode b_FM_requireItem 6 = .ok (.getfield 19, 3) := by decide +kernel
theorem d_FM_requireItem_9 : decode b_FM_requireItem 9 = .ok (.getfield 178, 3) := by decide +kernel
theorem d_FM_requireItem_12 : decode b_FM_requireItem 12 = .ok (.if_icmp .lt 13, 3) := by decide +kernel
theorem d_FM_requireItem_15 : decode b_FM_requireItem 15 = .ok (.new 114, 3) := by decide +kernel
theorem d_FM_requireItem_18 : decode b_FM_requireItem 18 = .ok (.dup, 1) := by decide +kernel
theorem d_FM_requireItem_19 : decode b_FM_requireItem 19 = .ok (.ldc 200, 2) := by decide +kernel
theorem d_FM_requireItem_21 : decode b_FM_requireItem 21 = .ok (.invokespecial 118, 3) := by decide +kernel
theorem d_FM_requireItem_24 : decode b_FM_requireItem 24 = .ok (.athrow, 1) := by decide +kernel
theorem d_FM_requireItem_25 : decode b_FM_requireItem 25 = .ok (.return_, 1) := by decide +kernel
set_option maxHeartbeats 4000000 in
set_option maxRecDepth 100000 in
theorem c_FM_requireItem (l : Launch) (dC : Nat → ClassId) (dI : Nat → Nat → Nat) (h : Nat) (bf : Nat) (li : Nat) (ra : Nat) (rl : Int32) (o : Nat) (sp : Nat) (ld : Int32) (pa : Nat) (va : Nat) (na : Nat) (le : Int32) (cn : Nat) (i : Nat) (hcn : cn ≤ 1066) (hi : i < cn) : fm_MV l (dC, dI) y_FM_requireItem w_FM_requireItem ({ frames := 0, cells := 0, slots := 0, locals := 0 }) [.ref h, .int (nI (i))] [(h, .inr (3, [.ref bf, .ref li, .ref ra, .int (rl), .ref o, .ref sp, .int (ld)])), (li, .inr (2, [.ref pa, .ref va, .ref na, .int (le), .int (nI (cn))]))] [] := by
  refine Met.ofW (cc := b_FM_requireItem) (maxL := 2) (ret := none) (by decide) rfl ?_
  intro pg ev s m args below meth cd s₁ BD hml hv
  obtain ⟨rfl, hP, hK⟩ := hv
  have hx := BD.exec
  have hb := BD.bytes
  have hr := BD.returns
  have hts := atoms_spec (ws := w_FM_requireItem) BD.pre
  have ht : ∀ w ∈ fm_T, w.before _ s = true := fun w h => hts w (List.mem_cons_of_mem _ h)
  have hown : s.vm.findClass R_FM = some m.cls := findClass_of_methodNamed BD.named
  have hlocks := BD.notSynchronized
  have S : CallFix pg m cd b_FM_requireItem 2 s _ w_FM_requireItem R_FM := ⟨hx, hb, hml, hown, hts⟩
  have hl := lv_entry ([.ref h, .int (nI (i))]) (n := 2) (Nat.le_of_ble_eq_true rfl)
  rw [lg_entry_eq]
  generalize (lg_sl ([.ref h, .int (nI (i))]) ++ List.replicate (2 - (lg_sl ([.ref h, .int (nI (i))])).length) Slot.unset).toArray = ls at hl ⊢
  have hl : lv_has ls 2 [(0, .ref h), (1, .int (nI (i)))] := hl
  refine lv_iload_n hx hb d_FM_requireItem_0 rfl (lv_at hl 1 rfl) ?_
  refine lv_if_lt (tgt := 15) hx hb d_FM_requireItem_1 (by decide) (fun c0 => ?_) (fun c0 => ?_)
  · have c_1 : i < 0 := (nI_ltI (a := i) (b := 0) (by omega) (by omega)).mp c0
    exact absurd c_1 (by omega)
  · have c_1 : ¬ (i < 0) := fun z => c0 ((nI_ltI (a := i) (b := 0) (by omega) (by omega)).mpr z)
    refine lv_iload_n hx hb d_FM_requireItem_4 rfl (lv_at hl 1 rfl) ?_
    refine lv_aload_n hx hb d_FM_requireItem_5 rfl (lv_at hl 0 rfl) ?_
    refine va_get (D := (dC, dI)) (ci := 3) (v := .ref li) (C := R_FM) (T := F_FM) (N := 7) hx hb ht i_FM hown hK hP 0 rfl rfl 1 (by decide) (ht _ q_1_100) (fun _ h9 => h9) rfl d_FM_requireItem_6 ?_
    refine va_get (D := (dC, dI)) (ci := 2) (v := .int (nI (cn))) (C := R_LI) (T := F_LI) (N := 5) hx hb ht i_LI hown hK hP 1 rfl rfl 4 (by decide) (ht _ q_1_50) (fun _ h9 => h9) rfl d_FM_requireItem_9 ?_
    refine lv_icmp_lt (tgt := 25) hx hb d_FM_requireItem_12 (by decide) (fun c0 => ?_) (fun c0 => ?_)
    · have c_12 : i < cn := (nI_ltI (a := i) (b := cn) (by omega) (by omega)).mp c0
      exact W.vret hx hb hr (fun t ht hW => ⟨rfl, trivial, ht⟩) (fun q hq => by cases hq) d_FM_requireItem_25
    · have c_12 : ¬ (i < cn) := fun z => c0 ((nI_ltI (a := i) (b := cn) (by omega) (by omega)).mpr z)
      exact absurd hi c_12
theorem d_FM_about_0 : decode b_FM_about 0 = .ok (.aload_n 0, 1) := by decide +kernel
theorem d_FM_about_1 : decode b_FM_about 1 = .ok (.invokevirtual 92, 3) := by decide +kernel
theorem d_FM_about_4 : decode b_FM_about 4 = .ok (.iload_n 1, 1) := by decide +kernel
theorem d_FM_about_5 : decode b_FM_about 5 = .ok (.tableswitch 110 0 6 #[43, 51, 59, 67, 75, 85, 93], 43) := by decide +kernel
theorem d_FM_about_48 : decode b_FM_about 48 = .ok (.aload_n 0, 1) := by decide +kernel
theorem d_FM_about_49 : decode b_FM_about 49 = .ok (.getfield 34, 3) := by decide +kernel
theorem d_FM_about_52 : decode b_FM_about 52 = .ok (.getfield 95, 3) := by decide +kernel
theorem d_FM_about_55 : decode b_FM_about 55 = .ok (.ireturn, 1) := by decide +kernel
theorem d_FM_about_56 : decode b_FM_about 56 = .ok (.aload_n 0, 1) := by decide +kernel
theorem d_FM_about_57 : decode b_FM_about 57 = .ok (.getfield 34, 3) := by decide +kernel
theorem d_FM_about_60 : decode b_FM_about 60 = .ok (.getfield 98, 3) := by decide +kernel
theorem d_FM_about_63 : decode b_FM_about 63 = .ok (.ireturn, 1) := by decide +kernel
theorem d_FM_about_64 : decode b_FM_about 64 = .ok (.aload_n 0, 1) := by decide +kernel
theorem d_FM_about_65 : decode b_FM_about 65 = .ok (.getfield 34, 3) := by decide +kernel
theorem d_FM_about_68 : decode b_FM_about 68 = .ok (.getfield 101, 3) := by decide +kernel
theorem d_FM_about_71 : decode b_FM_about 71 = .ok (.ireturn, 1) := by decide +kernel
theorem d_FM_about_72 : decode b_FM_about 72 = .ok (.aload_n 0, 1) := by decide +kernel
theorem d_FM_about_73 : decode b_FM_about 73 = .ok (.getfield 34, 3) := by decide +kernel
theorem d_FM_about_76 : decode b_FM_about 76 = .ok (.invokevirtual 81, 3) := by decide +kernel
theorem d_FM_about_79 : decode b_FM_about 79 = .ok (.ireturn, 1) := by decide +kernel
theorem d_FM_about_80 : decode b_FM_about 80 = .ok (.aload_n 0, 1) := by decide +kernel
theorem d_FM_about_81 : decode b_FM_about 81 = .ok (.getfield 34, 3) := by decide +kernel
theorem d_FM_about_84 : decode b_FM_about 84 = .ok (.bipush 9, 2) := by decide +kernel
theorem d_FM_about_86 : decode b_FM_about 86 = .ok (.invokevirtual 104, 3) := by decide +kernel
theorem d_FM_about_89 : decode b_FM_about 89 = .ok (.ireturn, 1) := by decide +kernel
theorem d_FM_about_90 : decode b_FM_about 90 = .ok (.aload_n 0, 1) := by decide +kernel
theorem d_FM_about_91 : decode b_FM_about 91 = .ok (.getfield 34, 3) := by decide +kernel
theorem d_FM_about_94 : decode b_FM_about 94 = .ok (.invokevirtual 108, 3) := by decide +kernel
theorem d_FM_about_97 : decode b_FM_about 97 = .ok (.ireturn, 1) := by decide +kernel
theorem d_FM_about_98 : decode b_FM_about 98 = .ok (.aload_n 0, 1) := by decide +kernel
theorem d_FM_about_99 : decode b_FM_about 99 = .ok (.getfield 34, 3) := by decide +kernel
theorem d_FM_about_102 : decode b_FM_about 102 = .ok (.invokevirtual 111, 3) := by decide +kernel
theorem d_FM_about_105 : decode b_FM_about 105 = .ok (.iconst (-1), 1) := by decide +kernel
theorem d_FM_about_106 : decode b_FM_about 106 = .ok (.if_icmp .ne 7, 3) := by decide +kernel
theorem d_FM_about_109 : decode b_FM_about 109 = .ok (.iconst 0, 1) := by decide +kernel
theorem d_FM_about_110 : decode b_FM_about 110 = .ok (.goto 4, 3) := by decide +kernel
theorem d_FM_about_113 : decode b_FM_about 113 = .ok (.iconst 1, 1) := by decide +kernel
theorem d_FM_about_114 : decode b_FM_about 114 = .ok (.ireturn, 1) := by decide +kernel
theorem d_FM_about_115 : decode b_FM_about 115 = .ok (.new 114, 3) := by decide +kernel
theorem d_FM_about_118 : decode b_FM_about 118 = .ok (.dup, 1) := by decide +kernel
theorem d_FM_about_119 : decode b_FM_about 119 = .ok (.ldc 116, 2) := by decide +kernel
theorem d_FM_about_121 : decode b_FM_about 121 = .ok (.invokespecial 118, 3) := by decide +kernel
theorem d_FM_about_124 : decode b_FM_about 124 = .ok (.athrow, 1) := by decide +kernel
set_option maxHeartbeats 4000000 in
set_option maxRecDepth 100000 in
theorem c_FM_about (l : Launch) (dC : Nat → ClassId) (dI : Nat → Nat → Nat) (h : Nat) (bf : Nat) (li : Nat) (ra : Nat) (rl : Int32) (o : Nat) (sp : Nat) (wa : Nat) (sa : Nat) (la : Nat) (s0 : Nat) (cI : ClassId) (B : Nat → Nat) (w : Nat → Int32) (st : Nat → Int32) (ln : Nat → Int32) (v : Nat) (hF : fm_FO B w st ln) (hV : fm_V B) (hv : v < 7) : fm_M l (dC, dI) y_FM_about w_FM_about ({ frames := 2, cells := 0, slots := 0, locals := 44 }) [.ref h, .int (nI (v))] [(h, .inr (3, [.ref bf, .ref li, .ref ra, .int (rl), .ref o, .ref sp, .int (nI (1))])), (o, .inr (1, [.ref wa, .ref sa, .ref la, .int (nI (fm_HF B 2)), .int (nI (fm_HF B 3)), .int (nI (s0)), .int (nI (fm_z s0)), .int (nI (fm_h s0))])), (wa, .inl (cI, 2048, .inl (w))), (sa, .inl (cI, 10, .inl (st))), (la, .inl (cI, 10, .inl (ln)))] [(cI, .int)] ((fm_ab B s0 v)) := by
  refine Met.ofW (cc := b_FM_about) (maxL := 2) (ret := (some .int)) (by decide) rfl ?_
  intro pg ev s m args below meth cd s₁ BD hml hv
  obtain ⟨rfl, hP, hK⟩ := hv
  have hx := BD.exec
  have hb := BD.bytes
  have hr := BD.returns
  have hts := atoms_spec (ws := w_FM_about) BD.pre
  have ht : ∀ w ∈ fm_T, w.before _ s = true := fun w h => hts w (List.mem_cons_of_mem _ h)
  have hown : s.vm.findClass R_FM = some m.cls := findClass_of_methodNamed BD.named
  have hlocks := BD.notSynchronized
  have S : CallFix pg m cd b_FM_about 2 s _ w_FM_about R_FM := ⟨hx, hb, hml, hown, hts⟩
  have hl := lv_entry ([.ref h, .int (nI (v))]) (n := 2) (Nat.le_of_ble_eq_true rfl)
  rw [lg_entry_eq]
  generalize (lg_sl ([.ref h, .int (nI (v))]) ++ List.replicate (2 - (lg_sl ([.ref h, .int (nI (v))])).length) Slot.unset).toArray = ls at hl ⊢
  have hl : lv_has ls 2 [(0, .ref h), (1, .int (nI (v)))] := hl
  have hB : ∀ i, B i < 256 := hF.1.1
  obtain ⟨hL, hFw, hFs, hFl⟩ := id hF
  obtain ⟨-, hq, h3, h10⟩ := id hL
  have hfew := hV.2.1
  have hd0 : 1 < fm_WD B 0 := Nat.lt_of_not_le (fun z => by rw [fm_few_t (Or.inl (by omega))] at hfew; cases hfew)
  refine lv_aload_n hx hb d_FM_about_0 rfl (lv_at hl 0 rfl) ?_
  refine fm_cnv S (c_FM_requireFont l dC dI h bf li ra rl o sp ) rfl rfl k_FM_requireFont q_2_152 ⟨Nat.le_of_ble_eq_true rfl, Nat.le_of_ble_eq_true rfl⟩ (hP.sub [0] rfl) (hK.sub [] rfl) 0 rfl rfl rfl hl.1 rfl (Nat.le_of_ble_eq_true rfl) ⟨Nat.zero_le _, Nat.zero_le _⟩ d_FM_about_1 ?_
  refine lv_iload_n hx hb d_FM_about_4 rfl (lv_at hl 1 rfl) ?_
  rcases (show v = 0 ∨ v = 1 ∨ v = 2 ∨ v = 3 ∨ v = 4 ∨ v = 5 ∨ v = 6 by omega) with e_5 | e_5 | e_5 | e_5 | e_5 | e_5 | e_5
  · refine fm_tw (z := nI 0) (by rw [e_5]) ?_
    refine lv_tableIn (off := 43) (tgt := 48) hx hb d_FM_about_5 (by decide) (by decide) (by decide) (by decide) ?_
    refine lv_aload_n hx hb d_FM_about_48 rfl (lv_at hl 0 rfl) ?_
    refine va_get (D := (dC, dI)) (ci := 3) (v := .ref o) (C := R_FM) (T := F_FM) (N := 7) hx hb ht i_FM hown hK hP 0 rfl rfl 4 (by decide) (ht _ q_1_103) (fun _ h9 => h9) rfl d_FM_about_49 ?_
    refine va_get (D := (dC, dI)) (ci := 1) (v := .int (nI (fm_HF B 2))) (C := R_FO) (T := F_FO) (N := 8) hx hb ht i_FO hown hK hP 1 rfl rfl 3 (by decide) (ht _ q_1_74) (fun _ h9 => h9) rfl d_FM_about_52 ?_
    exact W.iret hx hb hr (fun t ht hW => ⟨_, rfl, by subst e_5; rfl, ht⟩) (fun q hq => by cases hq) d_FM_about_55
  · refine fm_tw (z := nI 1) (by rw [e_5]) ?_
    refine lv_tableIn (off := 51) (tgt := 56) hx hb d_FM_about_5 (by decide) (by decide) (by decide) (by decide) ?_
    refine lv_aload_n hx hb d_FM_about_56 rfl (lv_at hl 0 rfl) ?_
    refine va_get (D := (dC, dI)) (ci := 3) (v := .ref o) (C := R_FM) (T := F_FM) (N := 7) hx hb ht i_FM hown hK hP 0 rfl rfl 4 (by decide) (ht _ q_1_103) (fun _ h9 => h9) rfl d_FM_about_57 ?_
    refine va_get (D := (dC, dI)) (ci := 1) (v := .int (nI (fm_HF B 3))) (C := R_FO) (T := F_FO) (N := 8) hx hb ht i_FO hown hK hP 1 rfl rfl 4 (by decide) (ht _ q_1_77) (fun _ h9 => h9) rfl d_FM_about_60 ?_
    exact W.iret hx hb hr (fun t ht hW => ⟨_, rfl, by subst e_5; rfl, ht⟩) (fun q hq => by cases hq) d_FM_about_63
  · refine fm_tw (z := nI 2) (by rw [e_5]) ?_
    refine lv_tableIn (off := 59) (tgt := 64) hx hb d_FM_about_5 (by decide) (by decide) (by decide) (by decide) ?_
    refine lv_aload_n hx hb d_FM_about_64 rfl (lv_at hl 0 rfl) ?_
    refine va_get (D := (dC, dI)) (ci := 3) (v := .ref o) (C := R_FM) (T := F_FM) (N := 7) hx hb ht i_FM hown hK hP 0 rfl rfl 4 (by decide) (ht _ q_1_103) (fun _ h9 => h9) rfl d_FM_about_65 ?_
    refine va_get (D := (dC, dI)) (ci := 1) (v := .int (nI (s0))) (C := R_FO) (T := F_FO) (N := 8) hx hb ht i_FO hown hK hP 1 rfl rfl 5 (by decide) (ht _ q_1_79) (fun _ h9 => h9) rfl d_FM_about_68 ?_
    exact W.iret hx hb hr (fun t ht hW => ⟨_, rfl, by subst e_5; rfl, ht⟩) (fun q hq => by cases hq) d_FM_about_71
  · refine fm_tw (z := nI 3) (by rw [e_5]) ?_
    refine lv_tableIn (off := 67) (tgt := 72) hx hb d_FM_about_5 (by decide) (by decide) (by decide) (by decide) ?_
    refine lv_aload_n hx hb d_FM_about_72 rfl (lv_at hl 0 rfl) ?_
    refine va_get (D := (dC, dI)) (ci := 3) (v := .ref o) (C := R_FM) (T := F_FM) (N := 7) hx hb ht i_FM hown hK hP 0 rfl rfl 4 (by decide) (ht _ q_1_103) (fun _ h9 => h9) rfl d_FM_about_73 ?_
    refine fm_cv S (c_FO_designSize l dC dI o wa sa la (nI (s0)) (nI (fm_z s0)) (nI (fm_h s0)) cI B w st ln (hF) (by omega)) rfl rfl k_FO_designSize q_2_130 ⟨Nat.le_of_ble_eq_true rfl, Nat.le_of_ble_eq_true rfl⟩ (hP.sub [1, 2, 3, 4] rfl) (hK.sub [0] rfl) 0 rfl rfl rfl hl.1 rfl (Nat.le_of_ble_eq_true rfl) ⟨Nat.zero_le _, Nat.zero_le _⟩ d_FM_about_76 ?_
    exact W.iret hx hb hr (fun t ht hW => ⟨_, rfl, by subst e_5; rfl, ht⟩) (fun q hq => by cases hq) d_FM_about_79
  · refine fm_tw (z := nI 4) (by rw [e_5]) ?_
    refine lv_tableIn (off := 75) (tgt := 80) hx hb d_FM_about_5 (by decide) (by decide) (by decide) (by decide) ?_
    refine lv_aload_n hx hb d_FM_about_80 rfl (lv_at hl 0 rfl) ?_
    refine va_get (D := (dC, dI)) (ci := 3) (v := .ref o) (C := R_FM) (T := F_FM) (N := 7) hx hb ht i_FM hown hK hP 0 rfl rfl 4 (by decide) (ht _ q_1_103) (fun _ h9 => h9) rfl d_FM_about_81 ?_
    refine lv_bipush (v := nI (9)) hx hb d_FM_about_84 (by decide) ?_
    refine fm_cv S (c_FO_lengthOfN l dC dI o wa sa la (nI (s0)) (nI (fm_z s0)) (nI (fm_h s0)) cI B w st ln 9 (hF) (by omega)) rfl rfl k_FO_lengthOf q_2_172 ⟨Nat.le_of_ble_eq_true rfl, Nat.le_of_ble_eq_true rfl⟩ (hP.sub [1, 2, 3, 4] rfl) (hK.sub [0] rfl) 0 rfl rfl rfl hl.1 rfl (Nat.le_of_ble_eq_true rfl) ⟨Nat.zero_le _, Nat.zero_le _⟩ d_FM_about_86 ?_
    have f0_86 := fm_WD_le hB 9
    exact W.iret hx hb hr (fun t ht hW => ⟨_, rfl, by subst e_5; rfl, ht⟩) (fun q hq => by cases hq) d_FM_about_89
  · refine fm_tw (z := nI 5) (by rw [e_5]) ?_
    refine lv_tableIn (off := 85) (tgt := 90) hx hb d_FM_about_5 (by decide) (by decide) (by decide) (by decide) ?_
    refine lv_aload_n hx hb d_FM_about_90 rfl (lv_at hl 0 rfl) ?_
    refine va_get (D := (dC, dI)) (ci := 3) (v := .ref o) (C := R_FM) (T := F_FM) (N := 7) hx hb ht i_FM hown hK hP 0 rfl rfl 4 (by decide) (ht _ q_1_103) (fun _ h9 => h9) rfl d_FM_about_91 ?_
    refine fm_cv S (c_FO_edge l dC dI o wa sa la (nI (s0)) (nI (fm_z s0)) (nI (fm_h s0)) cI B w st ln (hF)) rfl rfl k_FO_edge q_2_173 ⟨Nat.le_of_ble_eq_true rfl, Nat.le_of_ble_eq_true rfl⟩ (hP.sub [1, 2, 3, 4] rfl) (hK.sub [0] rfl) 0 rfl rfl rfl hl.1 rfl (Nat.le_of_ble_eq_true rfl) ⟨Nat.zero_le _, Nat.zero_le _⟩ d_FM_about_94 ?_
    exact W.iret hx hb hr (fun t ht hW => ⟨_, rfl, by subst e_5; rfl, ht⟩) (fun q hq => by cases hq) d_FM_about_97
  · refine fm_tw (z := nI 6) (by rw [e_5]) ?_
    refine lv_tableIn (off := 93) (tgt := 98) hx hb d_FM_about_5 (by decide) (by decide) (by decide) (by decide) ?_
    refine lv_aload_n hx hb d_FM_about_98 rfl (lv_at hl 0 rfl) ?_
    refine va_get (D := (dC, dI)) (ci := 3) (v := .ref o) (C := R_FM) (T := F_FM) (N := 7) hx hb ht i_FM hown hK hP 0 rfl rfl 4 (by decide) (ht _ q_1_103) (fun _ h9 => h9) rfl d_FM_about_99 ?_
    refine fm_cv S (c_FO_edgeStart l dC dI o wa sa la (nI (s0)) (nI (fm_z s0)) (nI (fm_h s0)) cI B w st ln (hF)) rfl rfl k_FO_edgeStart q_2_174 ⟨Nat.le_of_ble_eq_true rfl, Nat.le_of_ble_eq_true rfl⟩ (hP.sub [1, 2, 3, 4] rfl) (hK.sub [0] rfl) 0 rfl rfl rfl hl.1 rfl (Nat.le_of_ble_eq_true rfl) ⟨Nat.zero_le _, Nat.zero_le _⟩ d_FM_about_102 ?_
    refine lv_iconst (v := ((-1))) hx hb d_FM_about_105 (by decide) ?_
    refine lv_icmp_ne (tgt := 113) hx hb d_FM_about_106 (by decide) (fun c0 => ?_) (fun c0 => ?_)
    · have c_106 := c0
      refine lv_iconst (v := nI (1)) hx hb d_FM_about_113 (by decide) ?_
      exact W.iret hx hb hr (fun t ht hW => ⟨_, rfl, by subst e_5; show _ = if fm_ep B < 0 then nI 0 else nI 1; first | (rw [if_pos ((fm_ep_m1 hB).mp c_106)]; done) | (rw [if_neg (fun z => c_106 ((fm_ep_m1 hB).mpr z))]; done), ht⟩) (fun q hq => by cases hq) d_FM_about_114
    · have c_106 := c0
      refine lv_iconst (v := nI (0)) hx hb d_FM_about_109 (by decide) ?_
      refine lv_goto (tgt := 114) hx hb d_FM_about_110 (by decide) ?_
      exact W.iret hx hb hr (fun t ht hW => ⟨_, rfl, by subst e_5; show _ = if fm_ep B < 0 then nI 0 else nI 1; first | (rw [if_pos ((fm_ep_m1 hB).mp c_106)]; done) | (rw [if_neg (fun z => c_106 ((fm_ep_m1 hB).mpr z))]; done), ht⟩) (fun q hq => by cases hq) d_FM_about_114
theorem d_FM_of_0 : decode b_FM_of 0 = .ok (.aload_n 0, 1) := by decide +kernel
theorem d_FM_of_1 : decode b_FM_of 1 = .ok (.invokevirtual 92, 3) := by decide +kernel
theorem d_FM_of_4 : decode b_FM_of 4 = .ok (.aload_n 0, 1) := by decide +kernel
theorem d_FM_of_5 : decode b_FM_of 5 = .ok (.iload_n 1, 1) := by decide +kernel
theorem d_FM_of_6 : decode b_FM_of 6 = .ok (.invokevirtual 122, 3) := by decide +kernel
theorem d_FM_of_9 : decode b_FM_of 9 = .ok (.iload_n 2, 1) := by decide +kernel
theorem d_FM_of_10 : decode b_FM_of 10 = .ok (.tableswitch 98 0 5 #[38, 47, 56, 65, 74, 86], 38) := by decide +kernel
theorem d_FM_of_48 : decode b_FM_of 48 = .ok (.aload_n 0, 1) := by decide +kernel
theorem d_FM_of_49 : decode b_FM_of 49 = .ok (.getfield 34, 3) := by decide +kernel
theorem d_FM_of_52 : decode b_FM_of 52 = .ok (.iload_n 1, 1) := by decide +kernel
theorem d_FM_of_53 : decode b_FM_of 53 = .ok (.invokevirtual 125, 3) := by decide +kernel
theorem d_FM_of_56 : decode b_FM_of 56 = .ok (.ireturn, 1) := by decide +kernel
theorem d_FM_of_57 : decode b_FM_of 57 = .ok (.aload_n 0, 1) := by decide +kernel
theorem d_FM_of_58 : decode b_FM_of 58 = .ok (.getfield 34, 3) := by decide +kernel
theorem d_FM_of_61 : decode b_FM_of 61 = .ok (.iload_n 1, 1) := by decide +kernel
theorem d_FM_of_62 : decode b_FM_of 62 = .ok (.invokevirtual 128, 3) := by decide +kernel
theorem d_FM_of_65 : decode b_FM_of 65 = .ok (.ireturn, 1) := by decide +kernel
theorem d_FM_of_66 : decode b_FM_of 66 = .ok (.aload_n 0, 1) := by decide +kernel
theorem d_FM_of_67 : decode b_FM_of 67 = .ok (.getfield 34, 3) := by decide +kernel
theorem d_FM_of_70 : decode b_FM_of 70 = .ok (.iload_n 1, 1) := by decide +kernel
theorem d_FM_of_71 : decode b_FM_of 71 = .ok (.invokevirtual 131, 3) := by decide +kernel
theorem d_FM_of_74 : decode b_FM_of 74 = .ok (.ireturn, 1) := by decide +kernel
theorem d_FM_of_75 : decode b_FM_of 75 = .ok (.aload_n 0, 1) := by decide +kernel
theorem d_FM_of_76 : decode b_FM_of 76 = .ok (.getfield 34, 3) := by decide +kernel
theorem d_FM_of_79 : decode b_FM_of 79 = .ok (.iload_n 1, 1) := by decide +kernel
theorem d_FM_of_80 : decode b_FM_of 80 = .ok (.invokevirtual 134, 3) := by decide +kernel
theorem d_FM_of_83 : decode b_FM_of 83 = .ok (.ireturn, 1) := by decide +kernel
theorem d_FM_of_84 : decode b_FM_of 84 = .ok (.aload_n 0, 1) := by decide +kernel
theorem d_FM_of_85 : decode b_FM_of 85 = .ok (.getfield 34, 3) := by decide +kernel
theorem d_FM_of_88 : decode b_FM_of 88 = .ok (.iload_n 1, 1) := by decide +kernel
theorem d_FM_of_89 : decode b_FM_of 89 = .ok (.invokevirtual 137, 3) := by decide +kernel
theorem d_FM_of_92 : decode b_FM_of 92 = .ok (.invokestatic 140, 3) := by decide +kernel
theorem d_FM_of_95 : decode b_FM_of 95 = .ok (.ireturn, 1) := by decide +kernel
theorem d_FM_of_96 : decode b_FM_of 96 = .ok (.aload_n 0, 1) := by decide +kernel
theorem d_FM_of_97 : decode b_FM_of 97 = .ok (.getfield 34, 3) := by decide +kernel
theorem d_FM_of_100 : decode b_FM_of 100 = .ok (.iload_n 1, 1) := by decide +kernel
theorem d_FM_of_101 : decode b_FM_of 101 = .ok (.invokevirtual 137, 3) := by decide +kernel
theorem d_FM_of_104 : decode b_FM_of 104 = .ok (.invokestatic 143, 3) := by decide +kernel
theorem d_FM_of_107 : decode b_FM_of 107 = .ok (.ireturn, 1) := by decide +kernel
theorem d_FM_of_108 : decode b_FM_of 108 = .ok (.new 114, 3) := by decide +kernel
theorem d_FM_of_111 : decode b_FM_of 111 = .ok (.dup, 1) := by decide +kernel
theorem d_FM_of_112 : decode b_FM_of 112 = .ok (.ldc 116, 2) := by decide +kernel
theorem d_FM_of_114 : decode b_FM_of 114 = .ok (.invokespecial 118, 3) := by decide +kernel
theorem d_FM_of_117 : decode b_FM_of 117 = .ok (.athrow, 1) := by decide +kernel
set_option maxHeartbeats 4000000 in
set_option maxRecDepth 100000 in
theorem c_FM_of (l : Launch) (dC : Nat → ClassId) (dI : Nat → Nat → Nat) (h : Nat) (bf : Nat) (li : Nat) (ra : Nat) (rl : Int32) (o : Nat) (sp : Nat) (wa : Nat) (sa : Nat) (la : Nat) (s0 : Nat) (cI : ClassId) (B : Nat → Nat) (w : Nat → Int32) (st : Nat → Int32) (ln : Nat → Int32) (c : Nat) (v : Nat) (hF : fm_FO B w st ln) (hz : fm_all (fm_WD B 1) (fm_size1 B) = true) (hs : s0 < 134217728) (hth : fm_th B c = true) (hc31 : c < 2 ^ 31) (hv : v < 6) : fm_M l (dC, dI) y_FM_of w_FM_of ({ frames := 4, cells := 0, slots := 0, locals := 86 }) [.ref h, .int (nI (c)), .int (nI (v))] [(h, .inr (3, [.ref bf, .ref li, .ref ra, .int (rl), .ref o, .ref sp, .int (nI (1))])), (o, .inr (1, [.ref wa, .ref sa, .ref la, .int (nI (fm_HF B 2)), .int (nI (fm_HF B 3)), .int (nI (s0)), .int (nI (fm_z s0)), .int (nI (fm_h s0))])), (wa, .inl (cI, 2048, .inl (w))), (sa, .inl (cI, 10, .inl (st))), (la, .inl (cI, 10, .inl (ln)))] [(cI, .int)] ((fm_of B s0 c v)) := by
  refine Met.ofW (cc := b_FM_of) (maxL := 3) (ret := (some .int)) (by decide) rfl ?_
  intro pg ev s m args below meth cd s₁ BD hml hv
  obtain ⟨rfl, hP, hK⟩ := hv
  have hx := BD.exec
  have hb := BD.bytes
  have hr := BD.returns
  have hts := atoms_spec (ws := w_FM_of) BD.pre
  have ht : ∀ w ∈ fm_T, w.before _ s = true := fun w h => hts w (List.mem_cons_of_mem _ h)
  have hown : s.vm.findClass R_FM = some m.cls := findClass_of_methodNamed BD.named
  have hlocks := BD.notSynchronized
  have S : CallFix pg m cd b_FM_of 3 s _ w_FM_of R_FM := ⟨hx, hb, hml, hown, hts⟩
  have hl := lv_entry ([.ref h, .int (nI (c)), .int (nI (v))]) (n := 3) (Nat.le_of_ble_eq_true rfl)
  rw [lg_entry_eq]
  generalize (lg_sl ([.ref h, .int (nI (c)), .int (nI (v))]) ++ List.replicate (3 - (lg_sl ([.ref h, .int (nI (c)), .int (nI (v))])).length) Slot.unset).toArray = ls at hl ⊢
  have hl : lv_has ls 3 [(0, .ref h), (1, .int (nI (c))), (2, .int (nI (v)))] := hl
  have hB : ∀ i, B i < 256 := hF.1.1
  obtain ⟨hL, hFw, hFs, hFl⟩ := id hF
  obtain ⟨-, hq, h3, h10⟩ := id hL
  obtain ⟨h1, h2, -⟩ := fm_th_in hth
  refine lv_aload_n hx hb d_FM_of_0 rfl (lv_at hl 0 rfl) ?_
  refine fm_cnv S (c_FM_requireFont l dC dI h bf li ra rl o sp ) rfl rfl k_FM_requireFont q_2_152 ⟨Nat.le_of_ble_eq_true rfl, Nat.le_of_ble_eq_true rfl⟩ (hP.sub [0] rfl) (hK.sub [] rfl) 0 rfl rfl rfl hl.1 rfl (Nat.le_of_ble_eq_true rfl) ⟨Nat.zero_le _, Nat.zero_le _⟩ d_FM_of_1 ?_
  refine lv_aload_n hx hb d_FM_of_4 rfl (lv_at hl 0 rfl) ?_
  refine lv_iload_n hx hb d_FM_of_5 rfl (lv_at hl 1 rfl) ?_
  refine fm_cnv S (c_FM_requireThere l dC dI h bf li ra rl o sp wa sa la s0 cI B w st ln c (hF) (hth) (by omega)) rfl rfl k_FM_requireThere q_2_203 ⟨Nat.le_of_ble_eq_true rfl, Nat.le_of_ble_eq_true rfl⟩ (hP.sub [0, 1, 2, 3, 4] rfl) (hK.sub [0] rfl) 0 rfl rfl rfl hl.1 rfl (Nat.le_of_ble_eq_true rfl) ⟨Nat.zero_le _, Nat.zero_le _⟩ d_FM_of_6 ?_
  refine lv_iload_n hx hb d_FM_of_9 rfl (lv_at hl 2 rfl) ?_
  rcases (show v = 0 ∨ v = 1 ∨ v = 2 ∨ v = 3 ∨ v = 4 ∨ v = 5 by omega) with e_10 | e_10 | e_10 | e_10 | e_10 | e_10
  · refine fm_tw (z := nI 0) (by rw [e_10]) ?_
    refine lv_tableIn (off := 38) (tgt := 48) hx hb d_FM_of_10 (by decide) (by decide) (by decide) (by decide) ?_
    refine lv_aload_n hx hb d_FM_of_48 rfl (lv_at hl 0 rfl) ?_
    refine va_get (D := (dC, dI)) (ci := 3) (v := .ref o) (C := R_FM) (T := F_FM) (N := 7) hx hb ht i_FM hown hK hP 0 rfl rfl 4 (by decide) (ht _ q_1_103) (fun _ h9 => h9) rfl d_FM_of_49 ?_
    refine lv_iload_n hx hb d_FM_of_52 rfl (lv_at hl 1 rfl) ?_
    refine fm_cv S (c_FO_width l dC dI o wa sa la (nI (s0)) s0 cI B w st ln c (hF) (h1) (h2) (hz) (hs)) rfl rfl k_FO_width q_2_208 ⟨Nat.le_of_ble_eq_true rfl, Nat.le_of_ble_eq_true rfl⟩ (hP.sub [1, 2, 3, 4] rfl) (hK.sub [0] rfl) 0 rfl rfl rfl hl.1 rfl (Nat.le_of_ble_eq_true rfl) ⟨Nat.zero_le _, Nat.zero_le _⟩ d_FM_of_53 ?_
    exact W.iret hx hb hr (fun t ht hW => ⟨_, rfl, by subst e_10; rfl, ht⟩) (fun q hq => by cases hq) d_FM_of_56
  · refine fm_tw (z := nI 1) (by rw [e_10]) ?_
    refine lv_tableIn (off := 47) (tgt := 57) hx hb d_FM_of_10 (by decide) (by decide) (by decide) (by decide) ?_
    refine lv_aload_n hx hb d_FM_of_57 rfl (lv_at hl 0 rfl) ?_
    refine va_get (D := (dC, dI)) (ci := 3) (v := .ref o) (C := R_FM) (T := F_FM) (N := 7) hx hb ht i_FM hown hK hP 0 rfl rfl 4 (by decide) (ht _ q_1_103) (fun _ h9 => h9) rfl d_FM_of_58 ?_
    refine lv_iload_n hx hb d_FM_of_61 rfl (lv_at hl 1 rfl) ?_
    refine fm_cv S (c_FO_height l dC dI o wa sa la (nI (s0)) s0 cI B w st ln c (hF) (h1) (h2) (hz) (hs)) rfl rfl k_FO_height q_2_209 ⟨Nat.le_of_ble_eq_true rfl, Nat.le_of_ble_eq_true rfl⟩ (hP.sub [1, 2, 3, 4] rfl) (hK.sub [0] rfl) 0 rfl rfl rfl hl.1 rfl (Nat.le_of_ble_eq_true rfl) ⟨Nat.zero_le _, Nat.zero_le _⟩ d_FM_of_62 ?_
    exact W.iret hx hb hr (fun t ht hW => ⟨_, rfl, by subst e_10; rfl, ht⟩) (fun q hq => by cases hq) d_FM_of_65
  · refine fm_tw (z := nI 2) (by rw [e_10]) ?_
    refine lv_tableIn (off := 56) (tgt := 66) hx hb d_FM_of_10 (by decide) (by decide) (by decide) (by decide) ?_
    refine lv_aload_n hx hb d_FM_of_66 rfl (lv_at hl 0 rfl) ?_
    refine va_get (D := (dC, dI)) (ci := 3) (v := .ref o) (C := R_FM) (T := F_FM) (N := 7) hx hb ht i_FM hown hK hP 0 rfl rfl 4 (by decide) (ht _ q_1_103) (fun _ h9 => h9) rfl d_FM_of_67 ?_
    refine lv_iload_n hx hb d_FM_of_70 rfl (lv_at hl 1 rfl) ?_
    refine fm_cv S (c_FO_depth l dC dI o wa sa la (nI (s0)) s0 cI B w st ln c (hF) (h1) (h2) (hz) (hs)) rfl rfl k_FO_depth q_2_214 ⟨Nat.le_of_ble_eq_true rfl, Nat.le_of_ble_eq_true rfl⟩ (hP.sub [1, 2, 3, 4] rfl) (hK.sub [0] rfl) 0 rfl rfl rfl hl.1 rfl (Nat.le_of_ble_eq_true rfl) ⟨Nat.zero_le _, Nat.zero_le _⟩ d_FM_of_71 ?_
    exact W.iret hx hb hr (fun t ht hW => ⟨_, rfl, by subst e_10; rfl, ht⟩) (fun q hq => by cases hq) d_FM_of_74
  · refine fm_tw (z := nI 3) (by rw [e_10]) ?_
    refine lv_tableIn (off := 65) (tgt := 75) hx hb d_FM_of_10 (by decide) (by decide) (by decide) (by decide) ?_
    refine lv_aload_n hx hb d_FM_of_75 rfl (lv_at hl 0 rfl) ?_
    refine va_get (D := (dC, dI)) (ci := 3) (v := .ref o) (C := R_FM) (T := F_FM) (N := 7) hx hb ht i_FM hown hK hP 0 rfl rfl 4 (by decide) (ht _ q_1_103) (fun _ h9 => h9) rfl d_FM_of_76 ?_
    refine lv_iload_n hx hb d_FM_of_79 rfl (lv_at hl 1 rfl) ?_
    refine fm_cv S (c_FO_italic l dC dI o wa sa la (nI (s0)) s0 cI B w st ln c (hF) (h1) (h2) (hz) (hs)) rfl rfl k_FO_italic q_2_219 ⟨Nat.le_of_ble_eq_true rfl, Nat.le_of_ble_eq_true rfl⟩ (hP.sub [1, 2, 3, 4] rfl) (hK.sub [0] rfl) 0 rfl rfl rfl hl.1 rfl (Nat.le_of_ble_eq_true rfl) ⟨Nat.zero_le _, Nat.zero_le _⟩ d_FM_of_80 ?_
    exact W.iret hx hb hr (fun t ht hW => ⟨_, rfl, by subst e_10; rfl, ht⟩) (fun q hq => by cases hq) d_FM_of_83
  · refine fm_tw (z := nI 4) (by rw [e_10]) ?_
    refine lv_tableIn (off := 74) (tgt := 84) hx hb d_FM_of_10 (by decide) (by decide) (by decide) (by decide) ?_
    refine lv_aload_n hx hb d_FM_of_84 rfl (lv_at hl 0 rfl) ?_
    refine va_get (D := (dC, dI)) (ci := 3) (v := .ref o) (C := R_FM) (T := F_FM) (N := 7) hx hb ht i_FM hown hK hP 0 rfl rfl 4 (by decide) (ht _ q_1_103) (fun _ h9 => h9) rfl d_FM_of_85 ?_
    refine lv_iload_n hx hb d_FM_of_88 rfl (lv_at hl 1 rfl) ?_
    refine fm_cv S (c_FO_characterN l dC dI o wa sa la (nI (s0)) (nI (fm_z s0)) (nI (fm_h s0)) cI B w st ln c (hF) (h1) (h2)) rfl rfl k_FO_character q_2_224 ⟨Nat.le_of_ble_eq_true rfl, Nat.le_of_ble_eq_true rfl⟩ (hP.sub [1, 2, 3, 4] rfl) (hK.sub [0] rfl) 0 rfl rfl rfl hl.1 rfl (Nat.le_of_ble_eq_true rfl) ⟨Nat.zero_le _, Nat.zero_le _⟩ d_FM_of_89 ?_
    refine fm_cs S (c_FO_tag l dC dI (fm_W B 1 (c - fm_HF B 2)) ) rfl rfl k_FO_tag q_2_225 ⟨Nat.le_of_ble_eq_true rfl, Nat.le_of_ble_eq_true rfl⟩ (hP.sub [] rfl) (hK.sub [] rfl) rfl hl.1 rfl (Nat.le_of_ble_eq_true rfl) ⟨Nat.zero_le _, Nat.zero_le _⟩ d_FM_of_92 ?_
    refine fm_tw (z := nI (fm_AT B 1 (c - fm_HF B 2) 2 % 4)) (by simp only [fm_by_W hB _ _ (show 0 < 4 by decide), fm_by_W hB _ _ (show 1 < 4 by decide), fm_by_W hB _ _ (show 2 < 4 by decide), fm_by_W hB _ _ (show 3 < 4 by decide)]) ?_
    have f0_92 := fm_AT_lt hB 1 (c - fm_HF B 2) 2
    exact W.iret hx hb hr (fun t ht hW => ⟨_, rfl, by subst e_10; rfl, ht⟩) (fun q hq => by cases hq) d_FM_of_95
  · refine fm_tw (z := nI 5) (by rw [e_10]) ?_
    refine lv_tableIn (off := 86) (tgt := 96) hx hb d_FM_of_10 (by decide) (by decide) (by decide) (by decide) ?_
    refine lv_aload_n hx hb d_FM_of_96 rfl (lv_at hl 0 rfl) ?_
    refine va_get (D := (dC, dI)) (ci := 3) (v := .ref o) (C := R_FM) (T := F_FM) (N := 7) hx hb ht i_FM hown hK hP 0 rfl rfl 4 (by decide) (ht _ q_1_103) (fun _ h9 => h9) rfl d_FM_of_97 ?_
    refine lv_iload_n hx hb d_FM_of_100 rfl (lv_at hl 1 rfl) ?_
    refine fm_cv S (c_FO_characterN l dC dI o wa sa la (nI (s0)) (nI (fm_z s0)) (nI (fm_h s0)) cI B w st ln c (hF) (h1) (h2)) rfl rfl k_FO_character q_2_224 ⟨Nat.le_of_ble_eq_true rfl, Nat.le_of_ble_eq_true rfl⟩ (hP.sub [1, 2, 3, 4] rfl) (hK.sub [0] rfl) 0 rfl rfl rfl hl.1 rfl (Nat.le_of_ble_eq_true rfl) ⟨Nat.zero_le _, Nat.zero_le _⟩ d_FM_of_101 ?_
    refine fm_cs S (c_FO_rest l dC dI (fm_W B 1 (c - fm_HF B 2)) ) rfl rfl k_FO_rest q_2_226 ⟨Nat.le_of_ble_eq_true rfl, Nat.le_of_ble_eq_true rfl⟩ (hP.sub [] rfl) (hK.sub [] rfl) rfl hl.1 rfl (Nat.le_of_ble_eq_true rfl) ⟨Nat.zero_le _, Nat.zero_le _⟩ d_FM_of_104 ?_
    refine fm_tw (z := nI (fm_AT B 1 (c - fm_HF B 2) 3)) (by simp only [fm_by_W hB _ _ (show 0 < 4 by decide), fm_by_W hB _ _ (show 1 < 4 by decide), fm_by_W hB _ _ (show 2 < 4 by decide), fm_by_W hB _ _ (show 3 < 4 by decide)]) ?_
    have f0_104 := fm_AT_lt hB 1 (c - fm_HF B 2) 3
    exact W.iret hx hb hr (fun t ht hW => ⟨_, rfl, by subst e_10; rfl, ht⟩) (fun q hq => by cases hq) d_FM_of_107
theorem d_FM_part_0 : decode b_FM_part 0 = .ok (.aload_n 0, 1) := by decide +kernel
theorem d_FM_part_1 : decode b_FM_part 1 = .ok (.invokevirtual 92, 3) := by decide +kernel
theorem d_FM_part_4 : decode b_FM_part 4 = .ok (.aload_n 0, 1) := by decide +kernel
theorem d_FM_part_5 : decode b_FM_part 5 = .ok (.iload_n 1, 1) := by decide +kernel
theorem d_FM_part_6 : decode b_FM_part 6 = .ok (.invokevirtual 122, 3) := by decide +kernel
theorem d_FM_part_9 : decode b_FM_part 9 = .ok (.aload_n 0, 1) := by decide +kernel
theorem d_FM_part_10 : decode b_FM_part 10 = .ok (.getfield 34, 3) := by decide +kernel
theorem d_FM_part_13 : decode b_FM_part 13 = .ok (.iload_n 1, 1) := by decide +kernel
theorem d_FM_part_14 : decode b_FM_part 14 = .ok (.invokevirtual 137, 3) := by decide +kernel
theorem d_FM_part_17 : decode b_FM_part 17 = .ok (.istore_n 3, 1) := by decide +kernel
theorem d_FM_part_18 : decode b_FM_part 18 = .ok (.iload_n 3, 1) := by decide +kernel
theorem d_FM_part_19 : decode b_FM_part 19 = .ok (.invokestatic 140, 3) := by decide +kernel
theorem d_FM_part_22 : decode b_FM_part 22 = .ok (.iconst 3, 1) := by decide +kernel
theorem d_FM_part_23 : decode b_FM_part 23 = .ok (.if_icmp .ne 12, 3) := by decide +kernel
theorem d_FM_part_26 : decode b_FM_part 26 = .ok (.iload_n 2, 1) := by decide +kernel
theorem d_FM_part_27 : decode b_FM_part 27 = .ok (.ifCond .lt 8, 3) := by decide +kernel
theorem d_FM_part_30 : decode b_FM_part 30 = .ok (.iload_n 2, 1) := by decide +kernel
theorem d_FM_part_31 : decode b_FM_part 31 = .ok (.iconst 3, 1) := by decide +kernel
theorem d_FM_part_32 : decode b_FM_part 32 = .ok (.if_icmp .le 13, 3) := by decide +kernel
theorem d_FM_part_35 : decode b_FM_part 35 = .ok (.new 114, 3) := by decide +kernel
theorem d_FM_part_38 : decode b_FM_part 38 = .ok (.dup, 1) := by decide +kernel
theorem d_FM_part_39 : decode b_FM_part 39 = .ok (.ldc 146, 2) := by decide +kernel
theorem d_FM_part_41 : decode b_FM_part 41 = .ok (.invokespecial 118, 3) := by decide +kernel
theorem d_FM_part_44 : decode b_FM_part 44 = .ok (.athrow, 1) := by decide +kernel
theorem d_FM_part_45 : decode b_FM_part 45 = .ok (.aload_n 0, 1) := by decide +kernel
theorem d_FM_part_46 : decode b_FM_part 46 = .ok (.getfield 34, 3) := by decide +kernel
theorem d_FM_part_49 : decode b_FM_part 49 = .ok (.bipush 8, 2) := by decide +kernel
theorem d_FM_part_51 : decode b_FM_part 51 = .ok (.iload_n 3, 1) := by decide +kernel
theorem d_FM_part_52 : decode b_FM_part 52 = .ok (.invokestatic 143, 3) := by decide +kernel
theorem d_FM_part_55 : decode b_FM_part 55 = .ok (.invokevirtual 148, 3) := by decide +kernel
theorem d_FM_part_58 : decode b_FM_part 58 = .ok (.iload_n 2, 1) := by decide +kernel
theorem d_FM_part_59 : decode b_FM_part 59 = .ok (.invokestatic 152, 3) := by decide +kernel
theorem d_FM_part_62 : decode b_FM_part 62 = .ok (.ireturn, 1) := by decide +kernel
set_option maxHeartbeats 4000000 in
set_option maxRecDepth 100000 in
theorem c_FM_part (l : Launch) (dC : Nat → ClassId) (dI : Nat → Nat → Nat) (h : Nat) (bf : Nat) (li : Nat) (ra : Nat) (rl : Int32) (o : Nat) (sp : Nat) (wa : Nat) (sa : Nat) (la : Nat) (s0 : Nat) (cI : ClassId) (B : Nat → Nat) (w : Nat → Int32) (st : Nat → Int32) (ln : Nat → Int32) (c : Nat) (k : Nat) (hF : fm_FO B w st ln) (hV : fm_V B) (hth : fm_th B c = true) (hc31 : c < 2 ^ 31) (htg : fm_tag B c = 3) (hk : k < 4) : fm_M l (dC, dI) y_FM_part w_FM_part ({ frames := 4, cells := 0, slots := 0, locals := 86 }) [.ref h, .int (nI (c)), .int (nI (k))] [(h, .inr (3, [.ref bf, .ref li, .ref ra, .int (rl), .ref o, .ref sp, .int (nI (1))])), (o, .inr (1, [.ref wa, .ref sa, .ref la, .int (nI (fm_HF B 2)), .int (nI (fm_HF B 3)), .int (nI (s0)), .int (nI (fm_z s0)), .int (nI (fm_h s0))])), (wa, .inl (cI, 2048, .inl (w))), (sa, .inl (cI, 10, .inl (st))), (la, .inl (cI, 10, .inl (ln)))] [(cI, .int)] (nI (fm_AT B 8 (fm_rest B c) k)) := by
  refine Met.ofW (cc := b_FM_part) (maxL := 4) (ret := (some .int)) (by decide) rfl ?_
  intro pg ev s m args below meth cd s₁ BD hml hv
  obtain ⟨rfl, hP, hK⟩ := hv
  have hx := BD.exec
  have hb := BD.bytes
  have hr := BD.returns
  have hts := atoms_spec (ws := w_FM_part) BD.pre
  have ht : ∀ w ∈ fm_T, w.before _ s = true := fun w h => hts w (List.mem_cons_of_mem _ h)
  have hown : s.vm.findClass R_FM = some m.cls := findClass_of_methodNamed BD.named
  have hlocks := BD.notSynchronized
  have S : CallFix pg m cd b_FM_part 4 s _ w_FM_part R_FM := ⟨hx, hb, hml, hown, hts⟩
  have hl := lv_entry ([.ref h, .int (nI (c)), .int (nI (k))]) (n := 4) (Nat.le_of_ble_eq_true rfl)
  rw [lg_entry_eq]
  generalize (lg_sl ([.ref h, .int (nI (c)), .int (nI (k))]) ++ List.replicate (4 - (lg_sl ([.ref h, .int (nI (c)), .int (nI (k))])).length) Slot.unset).toArray = ls at hl ⊢
  have hl : lv_has ls 4 [(0, .ref h), (1, .int (nI (c))), (2, .int (nI (k)))] := hl
  have hB : ∀ i, B i < 256 := hF.1.1
  obtain ⟨hL, hFw, hFs, hFl⟩ := id hF
  obtain ⟨-, hq, h3, h10⟩ := id hL
  obtain ⟨h1, h2, -⟩ := fm_th_in hth
  have hr8 := (fm_V_tag hV hth).2 htg
  refine lv_aload_n hx hb d_FM_part_0 rfl (lv_at hl 0 rfl) ?_
  refine fm_cnv S (c_FM_requireFont l dC dI h bf li ra rl o sp ) rfl rfl k_FM_requireFont q_2_152 ⟨Nat.le_of_ble_eq_true rfl, Nat.le_of_ble_eq_true rfl⟩ (hP.sub [0] rfl) (hK.sub [] rfl) 0 rfl rfl rfl hl.1 rfl (Nat.le_of_ble_eq_true rfl) ⟨Nat.zero_le _, Nat.zero_le _⟩ d_FM_part_1 ?_
  refine lv_aload_n hx hb d_FM_part_4 rfl (lv_at hl 0 rfl) ?_
  refine lv_iload_n hx hb d_FM_part_5 rfl (lv_at hl 1 rfl) ?_
  refine fm_cnv S (c_FM_requireThere l dC dI h bf li ra rl o sp wa sa la s0 cI B w st ln c (hF) (hth) (by omega)) rfl rfl k_FM_requireThere q_2_203 ⟨Nat.le_of_ble_eq_true rfl, Nat.le_of_ble_eq_true rfl⟩ (hP.sub [0, 1, 2, 3, 4] rfl) (hK.sub [0] rfl) 0 rfl rfl rfl hl.1 rfl (Nat.le_of_ble_eq_true rfl) ⟨Nat.zero_le _, Nat.zero_le _⟩ d_FM_part_6 ?_
  refine lv_aload_n hx hb d_FM_part_9 rfl (lv_at hl 0 rfl) ?_
  refine va_get (D := (dC, dI)) (ci := 3) (v := .ref o) (C := R_FM) (T := F_FM) (N := 7) hx hb ht i_FM hown hK hP 0 rfl rfl 4 (by decide) (ht _ q_1_103) (fun _ h9 => h9) rfl d_FM_part_10 ?_
  refine lv_iload_n hx hb d_FM_part_13 rfl (lv_at hl 1 rfl) ?_
  refine fm_cv S (c_FO_characterN l dC dI o wa sa la (nI (s0)) (nI (fm_z s0)) (nI (fm_h s0)) cI B w st ln c (hF) (h1) (h2)) rfl rfl k_FO_character q_2_224 ⟨Nat.le_of_ble_eq_true rfl, Nat.le_of_ble_eq_true rfl⟩ (hP.sub [1, 2, 3, 4] rfl) (hK.sub [0] rfl) 0 rfl rfl rfl hl.1 rfl (Nat.le_of_ble_eq_true rfl) ⟨Nat.zero_le _, Nat.zero_le _⟩ d_FM_part_14 ?_
  refine lv_istore_n (lv' := [(3, .int (fm_W B 1 (c - fm_HF B 2))), (0, .ref h), (1, .int (nI (c))), (2, .int (nI (k)))]) hx hb d_FM_part_17 rfl hl (by decide) rfl (fun ls hl => ?_)
  refine lv_iload_n hx hb d_FM_part_18 rfl (lv_at hl 0 rfl) ?_
  refine fm_cs S (c_FO_tag l dC dI (fm_W B 1 (c - fm_HF B 2)) ) rfl rfl k_FO_tag q_2_225 ⟨Nat.le_of_ble_eq_true rfl, Nat.le_of_ble_eq_true rfl⟩ (hP.sub [] rfl) (hK.sub [] rfl) rfl hl.1 rfl (Nat.le_of_ble_eq_true rfl) ⟨Nat.zero_le _, Nat.zero_le _⟩ d_FM_part_19 ?_
  refine fm_tw (z := nI (fm_AT B 1 (c - fm_HF B 2) 2 % 4)) (by simp only [fm_by_W hB _ _ (show 0 < 4 by decide), fm_by_W hB _ _ (show 1 < 4 by decide), fm_by_W hB _ _ (show 2 < 4 by decide), fm_by_W hB _ _ (show 3 < 4 by decide)]) ?_
  have f0_19 := fm_AT_lt hB 1 (c - fm_HF B 2) 2
  refine lv_iconst (v := nI (3)) hx hb d_FM_part_22 (by decide) ?_
  refine lv_icmp_ne (tgt := 35) hx hb d_FM_part_23 (by decide) (fun c0 => ?_) (fun c0 => ?_)
  · have c_23 : ¬ (fm_AT B 1 (c - fm_HF B 2) 2 % 4 = 3) := fun z => c0 ((nI_eq (a := fm_AT B 1 (c - fm_HF B 2) 2 % 4) (b := 3) (by omega) (by omega)).mpr z)
    exact absurd htg c_23
  · have c_23 : fm_AT B 1 (c - fm_HF B 2) 2 % 4 = 3 := (nI_eq (a := fm_AT B 1 (c - fm_HF B 2) 2 % 4) (b := 3) (by omega) (by omega)).mp c0
    refine lv_iload_n hx hb d_FM_part_26 rfl (lv_at hl 3 rfl) ?_
    refine lv_if_lt (tgt := 35) hx hb d_FM_part_27 (by decide) (fun c0 => ?_) (fun c0 => ?_)
    · have c_27 : k < 0 := (nI_ltI (a := k) (b := 0) (by omega) (by omega)).mp c0
      exact absurd c_27 (by omega)
    · have c_27 : ¬ (k < 0) := fun z => c0 ((nI_ltI (a := k) (b := 0) (by omega) (by omega)).mpr z)
      refine lv_iload_n hx hb d_FM_part_30 rfl (lv_at hl 3 rfl) ?_
      refine lv_iconst (v := nI (3)) hx hb d_FM_part_31 (by decide) ?_
      refine lv_icmp_le (tgt := 45) hx hb d_FM_part_32 (by decide) (fun c0 => ?_) (fun c0 => ?_)
      · have c_32 : k ≤ 3 := (nI_leI (a := k) (b := 3) (by omega) (by omega)).mp c0
        refine lv_aload_n hx hb d_FM_part_45 rfl (lv_at hl 1 rfl) ?_
        refine va_get (D := (dC, dI)) (ci := 3) (v := .ref o) (C := R_FM) (T := F_FM) (N := 7) hx hb ht i_FM hown hK hP 0 rfl rfl 4 (by decide) (ht _ q_1_103) (fun _ h9 => h9) rfl d_FM_part_46 ?_
        refine lv_bipush (v := nI (8)) hx hb d_FM_part_49 (by decide) ?_
        refine lv_iload_n hx hb d_FM_part_51 rfl (lv_at hl 0 rfl) ?_
        refine fm_cs S (c_FO_rest l dC dI (fm_W B 1 (c - fm_HF B 2)) ) rfl rfl k_FO_rest q_2_226 ⟨Nat.le_of_ble_eq_true rfl, Nat.le_of_ble_eq_true rfl⟩ (hP.sub [] rfl) (hK.sub [] rfl) rfl hl.1 rfl (Nat.le_of_ble_eq_true rfl) ⟨Nat.zero_le _, Nat.zero_le _⟩ d_FM_part_52 ?_
        refine fm_tw (z := nI (fm_AT B 1 (c - fm_HF B 2) 3)) (by simp only [fm_by_W hB _ _ (show 0 < 4 by decide), fm_by_W hB _ _ (show 1 < 4 by decide), fm_by_W hB _ _ (show 2 < 4 by decide), fm_by_W hB _ _ (show 3 < 4 by decide)]) ?_
        have f0_52 := fm_AT_lt hB 1 (c - fm_HF B 2) 3
        refine fm_tw (z := nI (fm_rest B c)) (rfl) ?_
        refine fm_cv S (c_FO_wordN l dC dI o wa sa la (nI (s0)) (nI (fm_z s0)) (nI (fm_h s0)) cI B w st ln 8 (fm_rest B c) (hF) (by omega) (hr8)) rfl rfl k_FO_word q_2_235 ⟨Nat.le_of_ble_eq_true rfl, Nat.le_of_ble_eq_true rfl⟩ (hP.sub [1, 2, 3, 4] rfl) (hK.sub [0] rfl) 0 rfl rfl rfl hl.1 rfl (Nat.le_of_ble_eq_true rfl) ⟨Nat.zero_le _, Nat.zero_le _⟩ d_FM_part_55 ?_
        refine lv_iload_n hx hb d_FM_part_58 rfl (lv_at hl 3 rfl) ?_
        refine fm_cs S (c_FO_byteOf l dC dI (fm_W B 8 (fm_rest B c)) k (by omega)) rfl rfl k_FO_byteOf q_2_236 ⟨Nat.le_of_ble_eq_true rfl, Nat.le_of_ble_eq_true rfl⟩ (hP.sub [] rfl) (hK.sub [] rfl) rfl hl.1 rfl (Nat.le_of_ble_eq_true rfl) ⟨Nat.zero_le _, Nat.zero_le _⟩ d_FM_part_59 ?_
        refine fm_tw (z := nI (fm_AT B 8 (fm_rest B c) k)) (by rw [fm_by_W hB 8 _ hk]) ?_
        have f0_59 := fm_by_lt (fm_W B 8 (fm_rest B c)) k
        exact W.iret hx hb hr (fun t ht hW => ⟨_, rfl, rfl, ht⟩) (fun q hq => by cases hq) d_FM_part_62
      · have c_32 : ¬ (k ≤ 3) := fun z => c0 ((nI_leI (a := k) (b := 3) (by omega) (by omega)).mpr z)
        exact absurd c_32 (by omega)
theorem d_FM_parameter_0 : decode b_FM_parameter 0 = .ok (.aload_n 0, 1) := by decide +kernel
theorem d_FM_parameter_1 : decode b_FM_parameter 1 = .ok (.invokevirtual 92, 3) := by decide +kernel
theorem d_FM_parameter_4 : decode b_FM_parameter 4 = .ok (.iload_n 1, 1) := by decide +kernel
theorem d_FM_parameter_5 : decode b_FM_parameter 5 = .ok (.iconst 1, 1) := by decide +kernel
theorem d_FM_parameter_6 : decode b_FM_parameter 6 = .ok (.if_icmp .lt 16, 3) := by decide +kernel
theorem d_FM_parameter_9 : decode b_FM_parameter 9 = .ok (.iload_n 1, 1) := by decide +kernel
theorem d_FM_parameter_10 : decode b_FM_parameter 10 = .ok (.aload_n 0, 1) := by decide +kernel
theorem d_FM_parameter_11 : decode b_FM_parameter 11 = .ok (.getfield 34, 3) := by decide +kernel
theorem d_FM_parameter_14 : decode b_FM_parameter 14 = .ok (.bipush 9, 2) := by decide +kernel
theorem d_FM_parameter_16 : decode b_FM_parameter 16 = .ok (.invokevirtual 104, 3) := by decide +kernel
theorem d_FM_parameter_19 : decode b_FM_parameter 19 = .ok (.if_icmp .le 13, 3) := by decide +kernel
theorem d_FM_parameter_22 : decode b_FM_parameter 22 = .ok (.new 114, 3) := by decide +kernel
theorem d_FM_parameter_25 : decode b_FM_parameter 25 = .ok (.dup, 1) := by decide +kernel
theorem d_FM_parameter_26 : decode b_FM_parameter 26 = .ok (.ldc 155, 2) := by decide +kernel
theorem d_FM_parameter_28 : decode b_FM_parameter 28 = .ok (.invokespecial 118, 3) := by decide +kernel
theorem d_FM_parameter_31 : decode b_FM_parameter 31 = .ok (.athrow, 1) := by decide +kernel
theorem d_FM_parameter_32 : decode b_FM_parameter 32 = .ok (.aload_n 0, 1) := by decide +kernel
theorem d_FM_parameter_33 : decode b_FM_parameter 33 = .ok (.getfield 34, 3) := by decide +kernel
theorem d_FM_parameter_36 : decode b_FM_parameter 36 = .ok (.bipush 9, 2) := by decide +kernel
theorem d_FM_parameter_38 : decode b_FM_parameter 38 = .ok (.iload_n 1, 1) := by decide +kernel
theorem d_FM_parameter_39 : decode b_FM_parameter 39 = .ok (.iconst 1, 1) := by decide +kernel
theorem d_FM_parameter_40 : decode b_FM_parameter 40 = .ok (.isub, 1) := by decide +kernel
theorem d_FM_parameter_41 : decode b_FM_parameter 41 = .ok (.invokevirtual 148, 3) := by decide +kernel
theorem d_FM_parameter_44 : decode b_FM_parameter 44 = .ok (.istore_n 2, 1) := by decide +kernel
theorem d_FM_parameter_45 : decode b_FM_parameter 45 = .ok (.iload_n 1, 1) := by decide +kernel
theorem d_FM_parameter_46 : decode b_FM_parameter 46 = .ok (.iconst 1, 1) := by decide +kernel
theorem d_FM_parameter_47 : decode b_FM_parameter 47 = .ok (.if_icmp .ne 9, 3) := by decide +kernel
theorem d_FM_parameter_50 : decode b_FM_parameter 50 = .ok (.iload_n 2, 1) := by decide +kernel
theorem d_FM_parameter_51 : decode b_FM_parameter 51 = .ok (.iconst 4, 1) := by decide +kernel
theorem d_FM_parameter_52 : decode b_FM_parameter 52 = .ok (.ishr, 1) := by decide +kernel
theorem d_FM_parameter_53 : decode b_FM_parameter 53 = .ok (.goto 11, 3) := by decide +kernel
theorem d_FM_parameter_56 : decode b_FM_parameter 56 = .ok (.aload_n 0, 1) := by decide +kernel
theorem d_FM_parameter_57 : decode b_FM_parameter 57 = .ok (.getfield 34, 3) := by decide +kernel
theorem d_FM_parameter_60 : decode b_FM_parameter 60 = .ok (.iload_n 2, 1) := by decide +kernel
theorem d_FM_parameter_61 : decode b_FM_parameter 61 = .ok (.invokevirtual 157, 3) := by decide +kernel
theorem d_FM_parameter_64 : decode b_FM_parameter 64 = .ok (.ireturn, 1) := by decide +kernel
set_option maxHeartbeats 4000000 in
set_option maxRecDepth 100000 in
theorem c_FM_parameter (l : Launch) (dC : Nat → ClassId) (dI : Nat → Nat → Nat) (h : Nat) (bf : Nat) (li : Nat) (ra : Nat) (rl : Int32) (o : Nat) (sp : Nat) (wa : Nat) (sa : Nat) (la : Nat) (s0 : Nat) (cI : ClassId) (B : Nat → Nat) (w : Nat → Int32) (st : Nat → Int32) (ln : Nat → Int32) (i : Nat) (hF : fm_FO B w st ln) (hs : s0 < 134217728) (hi1 : 0 < i) (hi2 : i ≤ fm_WD B 9) : fm_M l (dC, dI) y_FM_parameter w_FM_parameter ({ frames := 2, cells := 0, slots := 0, locals := 46 }) [.ref h, .int (nI (i))] [(h, .inr (3, [.ref bf, .ref li, .ref ra, .int (rl), .ref o, .ref sp, .int (nI (1))])), (o, .inr (1, [.ref wa, .ref sa, .ref la, .int (nI (fm_HF B 2)), .int (nI (fm_HF B 3)), .int (nI (s0)), .int (nI (fm_z s0)), .int (nI (fm_h s0))])), (wa, .inl (cI, 2048, .inl (w))), (sa, .inl (cI, 10, .inl (st))), (la, .inl (cI, 10, .inl (ln)))] [(cI, .int)] ((fm_par B s0 i)) := by
  refine Met.ofW (cc := b_FM_parameter) (maxL := 3) (ret := (some .int)) (by decide) rfl ?_
  intro pg ev s m args below meth cd s₁ BD hml hv
  obtain ⟨rfl, hP, hK⟩ := hv
  have hx := BD.exec
  have hb := BD.bytes
  have hr := BD.returns
  have hts := atoms_spec (ws := w_FM_parameter) BD.pre
  have ht : ∀ w ∈ fm_T, w.before _ s = true := fun w h => hts w (List.mem_cons_of_mem _ h)
  have hown : s.vm.findClass R_FM = some m.cls := findClass_of_methodNamed BD.named
  have hlocks := BD.notSynchronized
  have S : CallFix pg m cd b_FM_parameter 3 s _ w_FM_parameter R_FM := ⟨hx, hb, hml, hown, hts⟩
  have hl := lv_entry ([.ref h, .int (nI (i))]) (n := 3) (Nat.le_of_ble_eq_true rfl)
  rw [lg_entry_eq]
  generalize (lg_sl ([.ref h, .int (nI (i))]) ++ List.replicate (3 - (lg_sl ([.ref h, .int (nI (i))])).length) Slot.unset).toArray = ls at hl ⊢
  have hl : lv_has ls 3 [(0, .ref h), (1, .int (nI (i)))] := hl
  have hB : ∀ i, B i < 256 := hF.1.1
  obtain ⟨hL, hFw, hFs, hFl⟩ := id hF
  obtain ⟨-, hq, h3, h10⟩ := id hL
  have hw9 := fm_WD_le hB 9
  refine lv_aload_n hx hb d_FM_parameter_0 rfl (lv_at hl 0 rfl) ?_
  refine fm_cnv S (c_FM_requireFont l dC dI h bf li ra rl o sp ) rfl rfl k_FM_requireFont q_2_152 ⟨Nat.le_of_ble_eq_true rfl, Nat.le_of_ble_eq_true rfl⟩ (hP.sub [0] rfl) (hK.sub [] rfl) 0 rfl rfl rfl hl.1 rfl (Nat.le_of_ble_eq_true rfl) ⟨Nat.zero_le _, Nat.zero_le _⟩ d_FM_parameter_1 ?_
  refine lv_iload_n hx hb d_FM_parameter_4 rfl (lv_at hl 1 rfl) ?_
  refine lv_iconst (v := nI (1)) hx hb d_FM_parameter_5 (by decide) ?_
  refine lv_icmp_lt (tgt := 22) hx hb d_FM_parameter_6 (by decide) (fun c0 => ?_) (fun c0 => ?_)
  · have c_6 : i < 1 := (nI_ltI (a := i) (b := 1) (by omega) (by omega)).mp c0
    exact absurd c_6 (by omega)
  · have c_6 : ¬ (i < 1) := fun z => c0 ((nI_ltI (a := i) (b := 1) (by omega) (by omega)).mpr z)
    refine lv_iload_n hx hb d_FM_parameter_9 rfl (lv_at hl 1 rfl) ?_
    refine lv_aload_n hx hb d_FM_parameter_10 rfl (lv_at hl 0 rfl) ?_
    refine va_get (D := (dC, dI)) (ci := 3) (v := .ref o) (C := R_FM) (T := F_FM) (N := 7) hx hb ht i_FM hown hK hP 0 rfl rfl 4 (by decide) (ht _ q_1_103) (fun _ h9 => h9) rfl d_FM_parameter_11 ?_
    refine lv_bipush (v := nI (9)) hx hb d_FM_parameter_14 (by decide) ?_
    refine fm_cv S (c_FO_lengthOfN l dC dI o wa sa la (nI (s0)) (nI (fm_z s0)) (nI (fm_h s0)) cI B w st ln 9 (hF) (by omega)) rfl rfl k_FO_lengthOf q_2_172 ⟨Nat.le_of_ble_eq_true rfl, Nat.le_of_ble_eq_true rfl⟩ (hP.sub [1, 2, 3, 4] rfl) (hK.sub [0] rfl) 0 rfl rfl rfl hl.1 rfl (Nat.le_of_ble_eq_true rfl) ⟨Nat.zero_le _, Nat.zero_le _⟩ d_FM_parameter_16 ?_
    have f0_16 := fm_WD_le hB 9
    refine lv_icmp_le (tgt := 32) hx hb d_FM_parameter_19 (by decide) (fun c0 => ?_) (fun c0 => ?_)
    · have c_19 : i ≤ fm_WD B 9 := (nI_leI (a := i) (b := fm_WD B 9) (by omega) (by omega)).mp c0
      refine lv_aload_n hx hb d_FM_parameter_32 rfl (lv_at hl 0 rfl) ?_
      refine va_get (D := (dC, dI)) (ci := 3) (v := .ref o) (C := R_FM) (T := F_FM) (N := 7) hx hb ht i_FM hown hK hP 0 rfl rfl 4 (by decide) (ht _ q_1_103) (fun _ h9 => h9) rfl d_FM_parameter_33 ?_
      refine lv_bipush (v := nI (9)) hx hb d_FM_parameter_36 (by decide) ?_
      refine lv_iload_n hx hb d_FM_parameter_38 rfl (lv_at hl 1 rfl) ?_
      refine lv_iconst (v := nI (1)) hx hb d_FM_parameter_39 (by decide) ?_
      refine lv_isub hx hb d_FM_parameter_40 ?_
      refine fm_tw (z := nI (i - 1)) (pk_sub (by omega)) ?_
      refine fm_cv S (c_FO_wordN l dC dI o wa sa la (nI (s0)) (nI (fm_z s0)) (nI (fm_h s0)) cI B w st ln 9 (i - 1) (hF) (by omega) (by omega)) rfl rfl k_FO_word q_2_235 ⟨Nat.le_of_ble_eq_true rfl, Nat.le_of_ble_eq_true rfl⟩ (hP.sub [1, 2, 3, 4] rfl) (hK.sub [0] rfl) 0 rfl rfl rfl hl.1 rfl (Nat.le_of_ble_eq_true rfl) ⟨Nat.zero_le _, Nat.zero_le _⟩ d_FM_parameter_41 ?_
      refine lv_istore_n (lv' := [(2, .int (fm_W B 9 (i - 1))), (0, .ref h), (1, .int (nI (i)))]) hx hb d_FM_parameter_44 rfl hl (by decide) rfl (fun ls hl => ?_)
      refine lv_iload_n hx hb d_FM_parameter_45 rfl (lv_at hl 2 rfl) ?_
      refine lv_iconst (v := nI (1)) hx hb d_FM_parameter_46 (by decide) ?_
      refine lv_icmp_ne (tgt := 56) hx hb d_FM_parameter_47 (by decide) (fun c0 => ?_) (fun c0 => ?_)
      · have c_47 : ¬ (i = 1) := fun z => c0 ((nI_eq (a := i) (b := 1) (by omega) (by omega)).mpr z)
        refine lv_aload_n hx hb d_FM_parameter_56 rfl (lv_at hl 1 rfl) ?_
        refine va_get (D := (dC, dI)) (ci := 3) (v := .ref o) (C := R_FM) (T := F_FM) (N := 7) hx hb ht i_FM hown hK hP 0 rfl rfl 4 (by decide) (ht _ q_1_103) (fun _ h9 => h9) rfl d_FM_parameter_57 ?_
        refine lv_iload_n hx hb d_FM_parameter_60 rfl (lv_at hl 0 rfl) ?_
        refine fm_cv S (c_FO_scaled l dC dI o wa sa la (nI (s0)) s0 cI B w st ln 9 (i - 1) (hB) (hs)) rfl rfl k_FO_scaled q_3_5 ⟨Nat.le_of_ble_eq_true rfl, Nat.le_of_ble_eq_true rfl⟩ (hP.sub [1, 2, 3, 4] rfl) (hK.sub [0] rfl) 0 rfl rfl rfl hl.1 rfl (Nat.le_of_ble_eq_true rfl) ⟨Nat.zero_le _, Nat.zero_le _⟩ d_FM_parameter_61 ?_
        exact W.iret hx hb hr (fun t ht hW => ⟨_, rfl, by first | (rw [fm_par, if_neg (by omega), show i - 1 = 0 by omega]; done) | (rw [fm_par, if_pos (by omega)]; done), ht⟩) (fun q hq => by cases hq) d_FM_parameter_64
      · have c_47 : i = 1 := (nI_eq (a := i) (b := 1) (by omega) (by omega)).mp c0
        refine lv_iload_n hx hb d_FM_parameter_50 rfl (lv_at hl 0 rfl) ?_
        refine lv_iconst (v := nI (4)) hx hb d_FM_parameter_51 (by decide) ?_
        refine lv_ishr hx hb d_FM_parameter_52 ?_
        refine lv_goto (tgt := 64) hx hb d_FM_parameter_53 (by decide) ?_
        exact W.iret hx hb hr (fun t ht hW => ⟨_, rfl, by first | (rw [fm_par, if_neg (by omega), show i - 1 = 0 by omega]; done) | (rw [fm_par, if_pos (by omega)]; done), ht⟩) (fun q hq => by cases hq) d_FM_parameter_64
    · have c_19 : ¬ (i ≤ fm_WD B 9) := fun z => c0 ((nI_leI (a := i) (b := fm_WD B 9) (by omega) (by omega)).mpr z)
      exact absurd hi2 c_19
theorem d_FM_ask_0 : decode b_FM_ask 0 = .ok (.aload_n 0, 1) := by decide +kernel
theorem d_FM_ask_1 : decode b_FM_ask 1 = .ok (.invokevirtual 92, 3) := by decide +kernel
theorem d_FM_ask_4 : decode b_FM_ask 4 = .ok (.aload_n 0, 1) := by decide +kernel
theorem d_FM_ask_5 : decode b_FM_ask 5 = .ok (.iload_n 1, 1) := by decide +kernel
theorem d_FM_ask_6 : decode b_FM_ask 6 = .ok (.invokevirtual 160, 3) := by decide +kernel
theorem d_FM_ask_9 : decode b_FM_ask 9 = .ok (.aload_n 0, 1) := by decide +kernel
theorem d_FM_ask_10 : decode b_FM_ask 10 = .ok (.iload_n 2, 1) := by decide +kernel
theorem d_FM_ask_11 : decode b_FM_ask 11 = .ok (.invokevirtual 160, 3) := by decide +kernel
theorem d_FM_ask_14 : decode b_FM_ask 14 = .ok (.aload_n 0, 1) := by decide +kernel
theorem d_FM_ask_15 : decode b_FM_ask 15 = .ok (.getfield 34, 3) := by decide +kernel
theorem d_FM_ask_18 : decode b_FM_ask 18 = .ok (.iload_n 1, 1) := by decide +kernel
theorem d_FM_ask_19 : decode b_FM_ask 19 = .ok (.iload_n 2, 1) := by decide +kernel
theorem d_FM_ask_20 : decode b_FM_ask 20 = .ok (.invokevirtual 163, 3) := by decide +kernel
theorem d_FM_ask_23 : decode b_FM_ask 23 = .ok (.ireturn, 1) := by decide +kernel
set_option maxHeartbeats 4000000 in
set_option maxRecDepth 100000 in
theorem c_FM_ask (l : Launch) (dC : Nat → ClassId) (dI : Nat → Nat → Nat) (h : Nat) (bf : Nat) (li : Nat) (ra : Nat) (rl : Int32) (o : Nat) (sp : Nat) (wa : Nat) (sa : Nat) (la : Nat) (s0 : Nat) (cI : ClassId) (B : Nat → Nat) (w : Nat → Int32) (st : Nat → Int32) (ln : Nat → Int32) (c : Nat) (r : Nat) (hF : fm_FO B w st ln) (hV : fm_V B) (hxx : c = 256 ∨ fm_th B c = true) (hrr : r = 256 ∨ fm_th B r = true) : fm_M l (dC, dI) y_FM_ask w_FM_ask ({ frames := 5, cells := 0, slots := 0, locals := 107 }) [.ref h, .int (nI (c)), .int (nI (r))] [(h, .inr (3, [.ref bf, .ref li, .ref ra, .int (rl), .ref o, .ref sp, .int (nI (1))])), (o, .inr (1, [.ref wa, .ref sa, .ref la, .int (nI (fm_HF B 2)), .int (nI (fm_HF B 3)), .int (nI (s0)), .int (nI (fm_z s0)), .int (nI (fm_h s0))])), (wa, .inl (cI, 2048, .inl (w))), (sa, .inl (cI, 10, .inl (st))), (la, .inl (cI, 10, .inl (ln)))] [(cI, .int)] ((fm_say B c r)) := by
  refine Met.ofW (cc := b_FM_ask) (maxL := 3) (ret := (some .int)) (by decide) rfl ?_
  intro pg ev s m args below meth cd s₁ BD hml hv
  obtain ⟨rfl, hP, hK⟩ := hv
  have hx := BD.exec
  have hb := BD.bytes
  have hr := BD.returns
  have hts := atoms_spec (ws := w_FM_ask) BD.pre
  have ht : ∀ w ∈ fm_T, w.before _ s = true := fun w h => hts w (List.mem_cons_of_mem _ h)
  have hown : s.vm.findClass R_FM = some m.cls := findClass_of_methodNamed BD.named
  have hlocks := BD.notSynchronized
  have S : CallFix pg m cd b_FM_ask 3 s _ w_FM_ask R_FM := ⟨hx, hb, hml, hown, hts⟩
  have hl := lv_entry ([.ref h, .int (nI (c)), .int (nI (r))]) (n := 3) (Nat.le_of_ble_eq_true rfl)
  rw [lg_entry_eq]
  generalize (lg_sl ([.ref h, .int (nI (c)), .int (nI (r))]) ++ List.replicate (3 - (lg_sl ([.ref h, .int (nI (c)), .int (nI (r))])).length) Slot.unset).toArray = ls at hl ⊢
  have hl : lv_has ls 3 [(0, .ref h), (1, .int (nI (c))), (2, .int (nI (r)))] := hl
  have hB : ∀ i, B i < 256 := hF.1.1
  obtain ⟨hL, hFw, hFs, hFl⟩ := id hF
  obtain ⟨-, hq, h3, h10⟩ := id hL
  have hc256 := fm_le256 hL hxx
  have hr256 := fm_le256 hL hrr
  refine lv_aload_n hx hb d_FM_ask_0 rfl (lv_at hl 0 rfl) ?_
  refine fm_cnv S (c_FM_requireFont l dC dI h bf li ra rl o sp ) rfl rfl k_FM_requireFont q_2_152 ⟨Nat.le_of_ble_eq_true rfl, Nat.le_of_ble_eq_true rfl⟩ (hP.sub [0] rfl) (hK.sub [] rfl) 0 rfl rfl rfl hl.1 rfl (Nat.le_of_ble_eq_true rfl) ⟨Nat.zero_le _, Nat.zero_le _⟩ d_FM_ask_1 ?_
  refine lv_aload_n hx hb d_FM_ask_4 rfl (lv_at hl 0 rfl) ?_
  refine lv_iload_n hx hb d_FM_ask_5 rfl (lv_at hl 1 rfl) ?_
  refine fm_cnv S (c_FM_requireThereOrEdge l dC dI h bf li ra rl o sp wa sa la s0 cI B w st ln c (hF) (hxx) (by omega)) rfl rfl k_FM_requireThereOrEdge q_3_13 ⟨Nat.le_of_ble_eq_true rfl, Nat.le_of_ble_eq_true rfl⟩ (hP.sub [0, 1, 2, 3, 4] rfl) (hK.sub [0] rfl) 0 rfl rfl rfl hl.1 rfl (Nat.le_of_ble_eq_true rfl) ⟨Nat.zero_le _, Nat.zero_le _⟩ d_FM_ask_6 ?_
  refine lv_aload_n hx hb d_FM_ask_9 rfl (lv_at hl 0 rfl) ?_
  refine lv_iload_n hx hb d_FM_ask_10 rfl (lv_at hl 2 rfl) ?_
  refine fm_cnv S (c_FM_requireThereOrEdge l dC dI h bf li ra rl o sp wa sa la s0 cI B w st ln r (hF) (hrr) (by omega)) rfl rfl k_FM_requireThereOrEdge q_3_13 ⟨Nat.le_of_ble_eq_true rfl, Nat.le_of_ble_eq_true rfl⟩ (hP.sub [0, 1, 2, 3, 4] rfl) (hK.sub [0] rfl) 0 rfl rfl rfl hl.1 rfl (Nat.le_of_ble_eq_true rfl) ⟨Nat.zero_le _, Nat.zero_le _⟩ d_FM_ask_11 ?_
  refine lv_aload_n hx hb d_FM_ask_14 rfl (lv_at hl 0 rfl) ?_
  refine va_get (D := (dC, dI)) (ci := 3) (v := .ref o) (C := R_FM) (T := F_FM) (N := 7) hx hb ht i_FM hown hK hP 0 rfl rfl 4 (by decide) (ht _ q_1_103) (fun _ h9 => h9) rfl d_FM_ask_15 ?_
  refine lv_iload_n hx hb d_FM_ask_18 rfl (lv_at hl 1 rfl) ?_
  refine lv_iload_n hx hb d_FM_ask_19 rfl (lv_at hl 2 rfl) ?_
  refine fm_cv S (c_FO_find l dC dI o wa sa la (nI (s0)) (nI (fm_z s0)) (nI (fm_h s0)) cI B w st ln c r (hF) (hV) (hxx) (by omega)) rfl rfl k_FO_find q_3_17 ⟨Nat.le_of_ble_eq_true rfl, Nat.le_of_ble_eq_true rfl⟩ (hP.sub [1, 2, 3, 4] rfl) (hK.sub [0] rfl) 0 rfl rfl rfl hl.1 rfl (Nat.le_of_ble_eq_true rfl) ⟨Nat.zero_le _, Nat.zero_le _⟩ d_FM_ask_20 ?_
  exact W.iret hx hb hr (fun t ht hW => ⟨_, rfl, rfl, ht⟩) (fun q hq => by cases hq) d_FM_ask_23
theorem d_FM_isKern_0 : decode b_FM_isKern 0 = .ok (.aload_n 0, 1) := by decide +kernel
theorem d_FM_isKern_1 : decode b_FM_isKern 1 = .ok (.iload_n 1, 1) := by decide +kernel
theorem d_FM_isKern_2 : decode b_FM_isKern 2 = .ok (.invokevirtual 181, 3) := by decide +kernel
theorem d_FM_isKern_5 : decode b_FM_isKern 5 = .ok (.aload_n 0, 1) := by decide +kernel
theorem d_FM_isKern_6 : decode b_FM_isKern 6 = .ok (.getfield 19, 3) := by decide +kernel
theorem d_FM_isKern_9 : decode b_FM_isKern 9 = .ok (.iload_n 1, 1) := by decide +kernel
theorem d_FM_isKern_10 : decode b_FM_isKern 10 = .ok (.invokevirtual 184, 3) := by decide +kernel
theorem d_FM_isKern_13 : decode b_FM_isKern 13 = .ok (.ireturn, 1) := by decide +kernel
set_option maxHeartbeats 4000000 in
set_option maxRecDepth 100000 in
theorem c_FM_isKern (l : Launch) (dC : Nat → ClassId) (dI : Nat → Nat → Nat) (h : Nat) (bf : Nat) (li : Nat) (ra : Nat) (rl : Int32) (o : Nat) (sp : Nat) (ld : Int32) (pa : Nat) (va : Nat) (na : Nat) (le : Int32) (cn : Nat) (cZ : ClassId) (kn : Nat → Int32) (i : Nat) (hcn : cn ≤ 1066) (hi : i < cn) : fm_M l (dC, dI) y_FM_isKern w_FM_isKern ({ frames := 1, cells := 0, slots := 0, locals := 21 }) [.ref h, .int (nI (i))] [(h, .inr (3, [.ref bf, .ref li, .ref ra, .int (rl), .ref o, .ref sp, .int (ld)])), (li, .inr (2, [.ref pa, .ref va, .ref na, .int (le), .int (nI (cn))])), (na, .inl (cZ, 1066, .inl (kn)))] [(cZ, .boolean)] ((fm_bI (decide (kn i ≠ 0)))) := by
  refine Met.ofW (cc := b_FM_isKern) (maxL := 2) (ret := (some .boolean)) (by decide) rfl ?_
  intro pg ev s m args below meth cd s₁ BD hml hv
  obtain ⟨rfl, hP, hK⟩ := hv
  have hx := BD.exec
  have hb := BD.bytes
  have hr := BD.returns
  have hts := atoms_spec (ws := w_FM_isKern) BD.pre
  have ht : ∀ w ∈ fm_T, w.before _ s = true := fun w h => hts w (List.mem_cons_of_mem _ h)
  have hown : s.vm.findClass R_FM = some m.cls := findClass_of_methodNamed BD.named
  have hlocks := BD.notSynchronized
  have S : CallFix pg m cd b_FM_isKern 2 s _ w_FM_isKern R_FM := ⟨hx, hb, hml, hown, hts⟩
  have hl := lv_entry ([.ref h, .int (nI (i))]) (n := 2) (Nat.le_of_ble_eq_true rfl)
  rw [lg_entry_eq]
  generalize (lg_sl ([.ref h, .int (nI (i))]) ++ List.replicate (2 - (lg_sl ([.ref h, .int (nI (i))])).length) Slot.unset).toArray = ls at hl ⊢
  have hl : lv_has ls 2 [(0, .ref h), (1, .int (nI (i)))] := hl
  refine lv_aload_n hx hb d_FM_isKern_0 rfl (lv_at hl 0 rfl) ?_
  refine lv_iload_n hx hb d_FM_isKern_1 rfl (lv_at hl 1 rfl) ?_
  refine fm_cnv S (c_FM_requireItem l dC dI h bf li ra rl o sp ld pa va na le cn i (by omega) (by omega)) rfl rfl k_FM_requireItem q_3_93 ⟨Nat.le_of_ble_eq_true rfl, Nat.le_of_ble_eq_true rfl⟩ (hP.sub [0, 1] rfl) (hK.sub [] rfl) 0 rfl rfl rfl hl.1 rfl (Nat.le_of_ble_eq_true rfl) ⟨Nat.zero_le _, Nat.zero_le _⟩ d_FM_isKern_2 ?_
  refine lv_aload_n hx hb d_FM_isKern_5 rfl (lv_at hl 0 rfl) ?_
  refine va_get (D := (dC, dI)) (ci := 3) (v := .ref li) (C := R_FM) (T := F_FM) (N := 7) hx hb ht i_FM hown hK hP 0 rfl rfl 1 (by decide) (ht _ q_1_100) (fun _ h9 => h9) rfl d_FM_isKern_6 ?_
  refine lv_iload_n hx hb d_FM_isKern_9 rfl (lv_at hl 1 rfl) ?_
  refine fm_cv S (c_LI_kernAt l dC dI li pa va na le (nI (cn)) cZ kn i (by omega)) rfl rfl k_LI_kernAt q_3_98 ⟨Nat.le_of_ble_eq_true rfl, Nat.le_of_ble_eq_true rfl⟩ (hP.sub [1, 2] rfl) (hK.sub [0] rfl) 0 rfl rfl rfl hl.1 rfl (Nat.le_of_ble_eq_true rfl) ⟨Nat.zero_le _, Nat.zero_le _⟩ d_FM_isKern_10 ?_
  exact W.zret (ty := .boolean) hx hb hr (fm_bI_z _) (fun t ht hW => ⟨_, rfl, rfl, ht⟩) (fun q hq => by cases hq) d_FM_isKern_13
theorem d_FM_item_0 : decode b_FM_item 0 = .ok (.aload_n 0, 1) := by decide +kernel
theorem d_FM_item_1 : decode b_FM_item 1 = .ok (.iload_n 1, 1) := by decide +kernel
theorem d_FM_item_2 : decode b_FM_item 2 = .ok (.invokevirtual 181, 3) := by decide +kernel
theorem d_FM_item_5 : decode b_FM_item 5 = .ok (.aload_n 0, 1) := by decide +kernel
theorem d_FM_item_6 : decode b_FM_item 6 = .ok (.getfield 19, 3) := by decide +kernel
theorem d_FM_item_9 : decode b_FM_item 9 = .ok (.iload_n 1, 1) := by decide +kernel
theorem d_FM_item_10 : decode b_FM_item 10 = .ok (.invokevirtual 187, 3) := by decide +kernel
theorem d_FM_item_13 : decode b_FM_item 13 = .ok (.ireturn, 1) := by decide +kernel
set_option maxHeartbeats 4000000 in
set_option maxRecDepth 100000 in
theorem c_FM_item (l : Launch) (dC : Nat → ClassId) (dI : Nat → Nat → Nat) (h : Nat) (bf : Nat) (li : Nat) (ra : Nat) (rl : Int32) (o : Nat) (sp : Nat) (ld : Int32) (pa : Nat) (va : Nat) (na : Nat) (le : Int32) (cn : Nat) (cI : ClassId) (vl : Nat → Int32) (i : Nat) (hcn : cn ≤ 1066) (hi : i < cn) : fm_M l (dC, dI) y_FM_item w_FM_item ({ frames := 1, cells := 0, slots := 0, locals := 21 }) [.ref h, .int (nI (i))] [(h, .inr (3, [.ref bf, .ref li, .ref ra, .int (rl), .ref o, .ref sp, .int (ld)])), (li, .inr (2, [.ref pa, .ref va, .ref na, .int (le), .int (nI (cn))])), (va, .inl (cI, 1066, .inl (vl)))] [(cI, .int)] ((vl i)) := by
  refine Met.ofW (cc := b_FM_item) (maxL := 2) (ret := (some .int)) (by decide) rfl ?_
  intro pg ev s m args below meth cd s₁ BD hml hv
  obtain ⟨rfl, hP, hK⟩ := hv
  have hx := BD.exec
  have hb := BD.bytes
  have hr := BD.returns
  have hts := atoms_spec (ws := w_FM_item) BD.pre
  have ht : ∀ w ∈ fm_T, w.before _ s = true := fun w h => hts w (List.mem_cons_of_mem _ h)
  have hown : s.vm.findClass R_FM = some m.cls := findClass_of_methodNamed BD.named
  have hlocks := BD.notSynchronized
  have S : CallFix pg m cd b_FM_item 2 s _ w_FM_item R_FM := ⟨hx, hb, hml, hown, hts⟩
  have hl := lv_entry ([.ref h, .int (nI (i))]) (n := 2) (Nat.le_of_ble_eq_true rfl)
  rw [lg_entry_eq]
  generalize (lg_sl ([.ref h, .int (nI (i))]) ++ List.replicate (2 - (lg_sl ([.ref h, .int (nI (i))])).length) Slot.unset).toArray = ls at hl ⊢
  have hl : lv_has ls 2 [(0, .ref h), (1, .int (nI (i)))] := hl
  refine lv_aload_n hx hb d_FM_item_0 rfl (lv_at hl 0 rfl) ?_
  refine lv_iload_n hx hb d_FM_item_1 rfl (lv_at hl 1 rfl) ?_
  refine fm_cnv S (c_FM_requireItem l dC dI h bf li ra rl o sp ld pa va na le cn i (by omega) (by omega)) rfl rfl k_FM_requireItem q_3_93 ⟨Nat.le_of_ble_eq_true rfl, Nat.le_of_ble_eq_true rfl⟩ (hP.sub [0, 1] rfl) (hK.sub [] rfl) 0 rfl rfl rfl hl.1 rfl (Nat.le_of_ble_eq_true rfl) ⟨Nat.zero_le _, Nat.zero_le _⟩ d_FM_item_2 ?_
  refine lv_aload_n hx hb d_FM_item_5 rfl (lv_at hl 0 rfl) ?_
  refine va_get (D := (dC, dI)) (ci := 3) (v := .ref li) (C := R_FM) (T := F_FM) (N := 7) hx hb ht i_FM hown hK hP 0 rfl rfl 1 (by decide) (ht _ q_1_100) (fun _ h9 => h9) rfl d_FM_item_6 ?_
  refine lv_iload_n hx hb d_FM_item_9 rfl (lv_at hl 1 rfl) ?_
  refine fm_cv S (c_LI_valueAt l dC dI li pa va na le (nI (cn)) cI vl i (by omega)) rfl rfl k_LI_valueAt q_3_106 ⟨Nat.le_of_ble_eq_true rfl, Nat.le_of_ble_eq_true rfl⟩ (hP.sub [1, 2] rfl) (hK.sub [0] rfl) 0 rfl rfl rfl hl.1 rfl (Nat.le_of_ble_eq_true rfl) ⟨Nat.zero_le _, Nat.zero_le _⟩ d_FM_item_10 ?_
  exact W.iret hx hb hr (fun t ht hW => ⟨_, rfl, rfl, ht⟩) (fun q hq => by cases hq) d_FM_item_13
