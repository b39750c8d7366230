theorem d_MO_half_0 : decode b_MO_half 0 = .ok (.sipush 256, 3) := by decide +kernel
theorem d_MO_half_3 : decode b_MO_half 3 = .ok (.aload_n 0, 1) := by decide +kernel
theorem d_MO_half_4 : decode b_MO_half 4 = .ok (.iconst 2, 1) := by decide +kernel
theorem d_MO_half_5 : decode b_MO_half 5 = .ok (.iload_n 1, 1) := by decide +kernel
theorem d_MO_half_6 : decode b_MO_half 6 = .ok (.imul, 1) := by decide +kernel
theorem d_MO_half_7 : decode b_MO_half 7 = .ok (.baload, 1) := by decide +kernel
theorem d_MO_half_8 : decode b_MO_half 8 = .ok (.sipush 255, 3) := by decide +kernel
theorem d_MO_half_11 : decode b_MO_half 11 = .ok (.iand, 1) := by decide +kernel
theorem d_MO_half_12 : decode b_MO_half 12 = .ok (.imul, 1) := by decide +kernel
theorem d_MO_half_13 : decode b_MO_half 13 = .ok (.aload_n 0, 1) := by decide +kernel
theorem d_MO_half_14 : decode b_MO_half 14 = .ok (.iconst 2, 1) := by decide +kernel
theorem d_MO_half_15 : decode b_MO_half 15 = .ok (.iload_n 1, 1) := by decide +kernel
theorem d_MO_half_16 : decode b_MO_half 16 = .ok (.imul, 1) := by decide +kernel
theorem d_MO_half_17 : decode b_MO_half 17 = .ok (.iconst 1, 1) := by decide +kernel
theorem d_MO_half_18 : decode b_MO_half 18 = .ok (.iadd, 1) := by decide +kernel
theorem d_MO_half_19 : decode b_MO_half 19 = .ok (.baload, 1) := by decide +kernel
theorem d_MO_half_20 : decode b_MO_half 20 = .ok (.sipush 255, 3) := by decide +kernel
theorem d_MO_half_23 : decode b_MO_half 23 = .ok (.iand, 1) := by decide +kernel
theorem d_MO_half_24 : decode b_MO_half 24 = .ok (.iadd, 1) := by decide +kernel
theorem d_MO_half_25 : decode b_MO_half 25 = .ok (.ireturn, 1) := by decide +kernel
set_option maxHeartbeats 4000000 in
set_option maxRecDepth 100000 in
theorem c_MO_half (l : Launch) (dC : Nat → ClassId) (dI : Nat → Nat → Nat) (fa : Nat) (cB : ClassId) (f : Nat → Int32) (k : Nat) (hk : k < 16) : fm_M l (dC, dI) y_MO_half w_MO_half ({ frames := 0, cells := 0, slots := 0, locals := 0 }) [.ref fa, .int (nI (k))] [(fa, .inl (cB, 8192, .inl (f)))] [(cB, .byte)] (nI (fm_HF (fm_RB f) k)) := by
  refine Met.ofW (cc := b_MO_half) (maxL := 2) (ret := (some .int)) (by decide) rfl ?_
  intro pg ev s m args below meth cd s₁ BD hml hv
  obtain ⟨rfl, hP, hK⟩ := hv
  have hx := BD.exec
  have hb := BD.bytes
  have hr := BD.returns
  have hts := atoms_spec (ws := w_MO_half) BD.pre
  have ht : ∀ w ∈ fm_T, w.before _ s = true := fun w h => hts w (List.mem_cons_of_mem _ h)
  have hown : s.vm.findClass R_MO = some m.cls := findClass_of_methodNamed BD.named
  have hlocks := BD.notSynchronized
  have S : CallFix pg m cd b_MO_half 2 s _ w_MO_half R_MO := ⟨hx, hb, hml, hown, hts⟩
  have hl := lv_entry ([.ref fa, .int (nI (k))]) (n := 2) (Nat.le_of_ble_eq_true rfl)
  rw [lg_entry_eq]
  generalize (lg_sl ([.ref fa, .int (nI (k))]) ++ List.replicate (2 - (lg_sl ([.ref fa, .int (nI (k))])).length) Slot.unset).toArray = ls at hl ⊢
  have hl : lv_has ls 2 [(0, .ref fa), (1, .int (nI (k)))] := hl
  refine lv_sipush (v := nI (256)) hx hb d_MO_half_0 (by decide) ?_
  refine lv_aload_n hx hb d_MO_half_3 rfl (lv_at hl 0 rfl) ?_
  refine lv_iconst (v := nI (2)) hx hb d_MO_half_4 (by decide) ?_
  refine lv_iload_n hx hb d_MO_half_5 rfl (lv_at hl 1 rfl) ?_
  refine lv_imul hx hb d_MO_half_6 ?_
  refine fm_tw (z := nI (2 * k)) (pk_mul _ _) ?_
  refine va_bald hx hb hK hP 0 0 rfl rfl (vp_in_nI (by omega) (by omega)) d_MO_half_7 ?_
  refine fm_tw (z := f (2 * k)) (by rw [nI_clamp (by omega)]) ?_
  refine lv_sipush (v := nI (255)) hx hb d_MO_half_8 (by decide) ?_
  refine lv_iand hx hb d_MO_half_11 ?_
  refine fm_tw (z := nI (fm_RB f (2 * k))) (fm_RB_and _ _) ?_
  refine lv_imul hx hb d_MO_half_12 ?_
  refine fm_tw (z := nI (256 * (fm_RB f (2 * k)))) (pk_mul _ _) ?_
  refine lv_aload_n hx hb d_MO_half_13 rfl (lv_at hl 0 rfl) ?_
  refine lv_iconst (v := nI (2)) hx hb d_MO_half_14 (by decide) ?_
  refine lv_iload_n hx hb d_MO_half_15 rfl (lv_at hl 1 rfl) ?_
  refine lv_imul hx hb d_MO_half_16 ?_
  refine fm_tw (z := nI (2 * k)) (pk_mul _ _) ?_
  refine lv_iconst (v := nI (1)) hx hb d_MO_half_17 (by decide) ?_
  refine lv_iadd hx hb d_MO_half_18 ?_
  refine fm_tw (z := nI (2 * k + 1)) (nI_add _ _) ?_
  refine va_bald hx hb hK hP 0 0 rfl rfl (vp_in_nI (by omega) (by omega)) d_MO_half_19 ?_
  refine fm_tw (z := f (2 * k + 1)) (by rw [nI_clamp (by omega)]) ?_
  refine lv_sipush (v := nI (255)) hx hb d_MO_half_20 (by decide) ?_
  refine lv_iand hx hb d_MO_half_23 ?_
  refine fm_tw (z := nI (fm_RB f (2 * k + 1))) (fm_RB_and _ _) ?_
  refine lv_iadd hx hb d_MO_half_24 ?_
  refine fm_tw (z := nI (256 * (fm_RB f (2 * k)) + fm_RB f (2 * k + 1))) (nI_add _ _) ?_
  exact W.iret hx hb hr (fun t ht hW => ⟨_, rfl, rfl, ht⟩) (fun q hq => by cases hq) d_MO_half_25
theorem d_MO_words_0 : decode b_MO_words 0 = .ok (.iload_n 1, 1) := by decide +kernel
theorem d_MO_words_1 : decode b_MO_words 1 = .ok (.ifCond .ne 11, 3) := by decide +kernel
theorem d_MO_words_4 : decode b_MO_words 4 = .ok (.aload_n 0, 1) := by decide +kernel
theorem d_MO_words_5 : decode b_MO_words 5 = .ok (.iconst 1, 1) := by decide +kernel
theorem d_MO_words_6 : decode b_MO_words 6 = .ok (.invokestatic 33, 3) := by decide +kernel
theorem d_MO_words_9 : decode b_MO_words 9 = .ok (.goto 31, 3) := by decide +kernel
theorem d_MO_words_12 : decode b_MO_words 12 = .ok (.iload_n 1, 1) := by decide +kernel
theorem d_MO_words_13 : decode b_MO_words 13 = .ok (.iconst 1, 1) := by decide +kernel
theorem d_MO_words_14 : decode b_MO_words 14 = .ok (.if_icmp .ne 19, 3) := by decide +kernel
theorem d_MO_words_17 : decode b_MO_words 17 = .ok (.aload_n 0, 1) := by decide +kernel
theorem d_MO_words_18 : decode b_MO_words 18 = .ok (.iconst 3, 1) := by decide +kernel
theorem d_MO_words_19 : decode b_MO_words 19 = .ok (.invokestatic 33, 3) := by decide +kernel
theorem d_MO_words_22 : decode b_MO_words 22 = .ok (.aload_n 0, 1) := by decide +kernel
theorem d_MO_words_23 : decode b_MO_words 23 = .ok (.iconst 2, 1) := by decide +kernel
theorem d_MO_words_24 : decode b_MO_words 24 = .ok (.invokestatic 33, 3) := by decide +kernel
theorem d_MO_words_27 : decode b_MO_words 27 = .ok (.isub, 1) := by decide +kernel
theorem d_MO_words_28 : decode b_MO_words 28 = .ok (.iconst 1, 1) := by decide +kernel
theorem d_MO_words_29 : decode b_MO_words 29 = .ok (.iadd, 1) := by decide +kernel
theorem d_MO_words_30 : decode b_MO_words 30 = .ok (.goto 10, 3) := by decide +kernel
theorem d_MO_words_33 : decode b_MO_words 33 = .ok (.aload_n 0, 1) := by decide +kernel
theorem d_MO_words_34 : decode b_MO_words 34 = .ok (.iload_n 1, 1) := by decide +kernel
theorem d_MO_words_35 : decode b_MO_words 35 = .ok (.iconst 2, 1) := by decide +kernel
theorem d_MO_words_36 : decode b_MO_words 36 = .ok (.iadd, 1) := by decide +kernel
theorem d_MO_words_37 : decode b_MO_words 37 = .ok (.invokestatic 33, 3) := by decide +kernel
theorem d_MO_words_40 : decode b_MO_words 40 = .ok (.ireturn, 1) := by decide +kernel
set_option maxHeartbeats 4000000 in
set_option maxRecDepth 100000 in
theorem c_MO_words (l : Launch) (dC : Nat → ClassId) (dI : Nat → Nat → Nat) (fa : Nat) (cB : ClassId) (f : Nat → Int32) (p : Nat) (hp : p < 10) (hq : p = 1 → fm_HF (fm_RB f) 2 ≤ fm_HF (fm_RB f) 3 + 1) : fm_M l (dC, dI) y_MO_words w_MO_words ({ frames := 1, cells := 0, slots := 0, locals := 21 }) [.ref fa, .int (nI (p))] [(fa, .inl (cB, 8192, .inl (f)))] [(cB, .byte)] (nI (fm_WD (fm_RB f) p)) := by
  refine Met.ofW (cc := b_MO_words) (maxL := 2) (ret := (some .int)) (by decide) rfl ?_
  intro pg ev s m args below meth cd s₁ BD hml hv
  obtain ⟨rfl, hP, hK⟩ := hv
  have hx := BD.exec
  have hb := BD.bytes
  have hr := BD.returns
  have hts := atoms_spec (ws := w_MO_words) BD.pre
  have ht : ∀ w ∈ fm_T, w.before _ s = true := fun w h => hts w (List.mem_cons_of_mem _ h)
  have hown : s.vm.findClass R_MO = some m.cls := findClass_of_methodNamed BD.named
  have hlocks := BD.notSynchronized
  have S : CallFix pg m cd b_MO_words 2 s _ w_MO_words R_MO := ⟨hx, hb, hml, hown, hts⟩
  have hl := lv_entry ([.ref fa, .int (nI (p))]) (n := 2) (Nat.le_of_ble_eq_true rfl)
  rw [lg_entry_eq]
  generalize (lg_sl ([.ref fa, .int (nI (p))]) ++ List.replicate (2 - (lg_sl ([.ref fa, .int (nI (p))])).length) Slot.unset).toArray = ls at hl ⊢
  have hl : lv_has ls 2 [(0, .ref fa), (1, .int (nI (p)))] := hl
  refine lv_iload_n hx hb d_MO_words_0 rfl (lv_at hl 1 rfl) ?_
  refine lv_if_ne (tgt := 12) hx hb d_MO_words_1 (by decide) (fun c0 => ?_) (fun c0 => ?_)
  · have c_1 : ¬ (p = 0) := fun z => c0 ((nI_eq (a := p) (b := 0) (by omega) (by omega)).mpr z)
    refine lv_iload_n hx hb d_MO_words_12 rfl (lv_at hl 1 rfl) ?_
    refine lv_iconst (v := nI (1)) hx hb d_MO_words_13 (by decide) ?_
    refine lv_icmp_ne (tgt := 33) hx hb d_MO_words_14 (by decide) (fun c0 => ?_) (fun c0 => ?_)
    · have c_14 : ¬ (p = 1) := fun z => c0 ((nI_eq (a := p) (b := 1) (by omega) (by omega)).mpr z)
      refine lv_aload_n hx hb d_MO_words_33 rfl (lv_at hl 0 rfl) ?_
      refine lv_iload_n hx hb d_MO_words_34 rfl (lv_at hl 1 rfl) ?_
      refine lv_iconst (v := nI (2)) hx hb d_MO_words_35 (by decide) ?_
      refine lv_iadd hx hb d_MO_words_36 ?_
      refine fm_tw (z := nI (p + 2)) (nI_add _ _) ?_
      refine fm_cs S (c_MO_half l dC dI fa cB f (p + 2) (by omega)) rfl rfl k_MO_half q_3_172 ⟨Nat.le_of_ble_eq_true rfl, Nat.le_of_ble_eq_true rfl⟩ (hP.sub [0] rfl) (hK.sub [0] rfl) rfl hl.1 rfl (Nat.le_of_ble_eq_true rfl) ⟨Nat.zero_le _, Nat.zero_le _⟩ d_MO_words_37 ?_
      have f0_37 := fm_HF_lt (fm_RB_lt f) (p + 2)
      exact W.iret hx hb hr (fun t ht hW => ⟨_, rfl, by first | (rw [c_1]; rfl) | (rw [c_14]; rfl) | simp [fm_WD, c_1, c_14], ht⟩) (fun q hq => by cases hq) d_MO_words_40
    · have c_14 : p = 1 := (nI_eq (a := p) (b := 1) (by omega) (by omega)).mp c0
      refine lv_aload_n hx hb d_MO_words_17 rfl (lv_at hl 0 rfl) ?_
      refine lv_iconst (v := nI (3)) hx hb d_MO_words_18 (by decide) ?_
      refine fm_cs S (c_MO_half l dC dI fa cB f 3 (by omega)) rfl rfl k_MO_half q_3_172 ⟨Nat.le_of_ble_eq_true rfl, Nat.le_of_ble_eq_true rfl⟩ (hP.sub [0] rfl) (hK.sub [0] rfl) rfl hl.1 rfl (Nat.le_of_ble_eq_true rfl) ⟨Nat.zero_le _, Nat.zero_le _⟩ d_MO_words_19 ?_
      have f0_19 := fm_HF_lt (fm_RB_lt f) 3
      refine lv_aload_n hx hb d_MO_words_22 rfl (lv_at hl 0 rfl) ?_
      refine lv_iconst (v := nI (2)) hx hb d_MO_words_23 (by decide) ?_
      refine fm_cs S (c_MO_half l dC dI fa cB f 2 (by omega)) rfl rfl k_MO_half q_3_172 ⟨Nat.le_of_ble_eq_true rfl, Nat.le_of_ble_eq_true rfl⟩ (hP.sub [0] rfl) (hK.sub [0] rfl) rfl hl.1 rfl (Nat.le_of_ble_eq_true rfl) ⟨Nat.zero_le _, Nat.zero_le _⟩ d_MO_words_24 ?_
      have f0_24 := fm_HF_lt (fm_RB_lt f) 2
      refine lv_isub hx hb d_MO_words_27 ?_
      refine fm_tw (z := (nI (fm_HF (fm_RB f) 3) - nI (fm_HF (fm_RB f) 2))) (rfl) ?_
      refine lv_iconst (v := nI (1)) hx hb d_MO_words_28 (by decide) ?_
      refine lv_iadd hx hb d_MO_words_29 ?_
      refine fm_tw (z := nI (fm_HF (fm_RB f) 3 + 1 - fm_HF (fm_RB f) 2)) (fm_sub1 (hq c_14)) ?_
      refine lv_goto (tgt := 40) hx hb d_MO_words_30 (by decide) ?_
      exact W.iret hx hb hr (fun t ht hW => ⟨_, rfl, by first | (rw [c_1]; rfl) | (rw [c_14]; rfl) | simp [fm_WD, c_1, c_14], ht⟩) (fun q hq => by cases hq) d_MO_words_40
  · have c_1 : p = 0 := (nI_eq (a := p) (b := 0) (by omega) (by omega)).mp c0
    refine lv_aload_n hx hb d_MO_words_4 rfl (lv_at hl 0 rfl) ?_
    refine lv_iconst (v := nI (1)) hx hb d_MO_words_5 (by decide) ?_
    refine fm_cs S (c_MO_half l dC dI fa cB f 1 (by omega)) rfl rfl k_MO_half q_3_172 ⟨Nat.le_of_ble_eq_true rfl, Nat.le_of_ble_eq_true rfl⟩ (hP.sub [0] rfl) (hK.sub [0] rfl) rfl hl.1 rfl (Nat.le_of_ble_eq_true rfl) ⟨Nat.zero_le _, Nat.zero_le _⟩ d_MO_words_6 ?_
    have f0_6 := fm_HF_lt (fm_RB_lt f) 1
    refine lv_goto (tgt := 40) hx hb d_MO_words_9 (by decide) ?_
    exact W.iret hx hb hr (fun t ht hW => ⟨_, rfl, by first | (rw [c_1]; rfl) | (rw [c_14]; rfl) | simp [fm_WD, c_1, c_14], ht⟩) (fun q hq => by cases hq) d_MO_words_40
theorem d_MO_start_0 : decode b_MO_start 0 = .ok (.bipush 6, 2) := by decide +kernel
theorem d_MO_start_2 : decode b_MO_start 2 = .ok (.istore_n 2, 1) := by decide +kernel
theorem d_MO_start_3 : decode b_MO_start 3 = .ok (.iconst 0, 1) := by decide +kernel
theorem d_MO_start_4 : decode b_MO_start 4 = .ok (.istore_n 3, 1) := by decide +kernel
theorem d_MO_start_5 : decode b_MO_start 5 = .ok (.iload_n 3, 1) := by decide +kernel
theorem d_MO_start_6 : decode b_MO_start 6 = .ok (.iload_n 1, 1) := by decide +kernel
theorem d_MO_start_7 : decode b_MO_start 7 = .ok (.if_icmp .ge 17, 3) := by decide +kernel
theorem d_MO_start_10 : decode b_MO_start 10 = .ok (.iload_n 2, 1) := by decide +kernel
theorem d_MO_start_11 : decode b_MO_start 11 = .ok (.aload_n 0, 1) := by decide +kernel
theorem d_MO_start_12 : decode b_MO_start 12 = .ok (.iload_n 3, 1) := by decide +kernel
theorem d_MO_start_13 : decode b_MO_start 13 = .ok (.invokestatic 37, 3) := by decide +kernel
theorem d_MO_start_16 : decode b_MO_start 16 = .ok (.iadd, 1) := by decide +kernel
theorem d_MO_start_17 : decode b_MO_start 17 = .ok (.istore_n 2, 1) := by decide +kernel
theorem d_MO_start_18 : decode b_MO_start 18 = .ok (.iinc 3 1, 3) := by decide +kernel
theorem d_MO_start_21 : decode b_MO_start 21 = .ok (.goto (-16), 3) := by decide +kernel
theorem d_MO_start_24 : decode b_MO_start 24 = .ok (.iload_n 2, 1) := by decide +kernel
theorem d_MO_start_25 : decode b_MO_start 25 = .ok (.ireturn, 1) := by decide +kernel
set_option maxHeartbeats 4000000 in
set_option maxRecDepth 100000 in
theorem c_MO_start (l : Launch) (dC : Nat → ClassId) (dI : Nat → Nat → Nat) (fa : Nat) (cB : ClassId) (f : Nat → Int32) (p : Nat) (hp : p ≤ 10) (hq : fm_HF (fm_RB f) 2 ≤ fm_HF (fm_RB f) 3 + 1) : fm_M l (dC, dI) y_MO_start w_MO_start ({ frames := 2, cells := 0, slots := 0, locals := 42 }) [.ref fa, .int (nI (p))] [(fa, .inl (cB, 8192, .inl (f)))] [(cB, .byte)] (nI (fm_ST (fm_RB f) p)) := by
  refine Met.ofW (cc := b_MO_start) (maxL := 4) (ret := (some .int)) (by decide) rfl ?_
  intro pg ev s m args below meth cd s₁ BD hml hv
  obtain ⟨rfl, hP, hK⟩ := hv
  have hx := BD.exec
  have hb := BD.bytes
  have hr := BD.returns
  have hts := atoms_spec (ws := w_MO_start) BD.pre
  have ht : ∀ w ∈ fm_T, w.before _ s = true := fun w h => hts w (List.mem_cons_of_mem _ h)
  have hown : s.vm.findClass R_MO = some m.cls := findClass_of_methodNamed BD.named
  have hlocks := BD.notSynchronized
  have S : CallFix pg m cd b_MO_start 4 s _ w_MO_start R_MO := ⟨hx, hb, hml, hown, hts⟩
  have hl := lv_entry ([.ref fa, .int (nI (p))]) (n := 4) (Nat.le_of_ble_eq_true rfl)
  rw [lg_entry_eq]
  generalize (lg_sl ([.ref fa, .int (nI (p))]) ++ List.replicate (4 - (lg_sl ([.ref fa, .int (nI (p))])).length) Slot.unset).toArray = ls at hl ⊢
  have hl : lv_has ls 4 [(0, .ref fa), (1, .int (nI (p)))] := hl
  refine lv_bipush (v := nI (6)) hx hb d_MO_start_0 (by decide) ?_
  refine lv_istore_n (lv' := [(2, .int (nI (6))), (0, .ref fa), (1, .int (nI (p)))]) hx hb d_MO_start_2 rfl hl (by decide) rfl (fun ls hl => ?_)
  refine lv_iconst (v := nI (0)) hx hb d_MO_start_3 (by decide) ?_
  refine lv_istore_n (lv' := [(3, .int (nI (0))), (2, .int (nI (6))), (0, .ref fa), (1, .int (nI (p)))]) hx hb d_MO_start_4 rfl hl (by decide) rfl (fun ls hl => ?_)
  refine fm_loop1 (LV := fun (i : Nat) => [(0, .ref fa), (1, .int (nI (p))), (2, .int (nI (fm_ST (fm_RB f) i))), (3, .int (nI (i)))]) (I := fun (i : Nat) => i ≤ p) (μ := fun (i : Nat) => p - i) ?_ 0 (Nat.zero_le _) ls (lv_sub hl [2, 3, 1, 0] rfl)
  intro i hI_5 ih_5 ls hl
  have hl : lv_has ls 4 [(0, .ref fa), (1, .int (nI (p))), (2, .int (nI (fm_ST (fm_RB f) i))), (3, .int (nI (i)))] := hl
  refine lv_iload_n hx hb d_MO_start_5 rfl (lv_at hl 3 rfl) ?_
  refine lv_iload_n hx hb d_MO_start_6 rfl (lv_at hl 1 rfl) ?_
  refine lv_icmp_ge (tgt := 24) hx hb d_MO_start_7 (by decide) (fun c0 => ?_) (fun c0 => ?_)
  · have c_7 : p ≤ i := (nI_leI (a := p) (b := i) (by omega) (by omega)).mp c0
    refine lv_iload_n hx hb d_MO_start_24 rfl (lv_at hl 2 rfl) ?_
    exact W.iret hx hb hr (fun t ht hW => ⟨_, rfl, by rw [show p = i by omega], ht⟩) (fun q hq => by cases hq) d_MO_start_25
  · have c_7 : ¬ (p ≤ i) := fun z => c0 ((nI_leI (a := p) (b := i) (by omega) (by omega)).mpr z)
    refine lv_iload_n hx hb d_MO_start_10 rfl (lv_at hl 2 rfl) ?_
    refine lv_aload_n hx hb d_MO_start_11 rfl (lv_at hl 0 rfl) ?_
    refine lv_iload_n hx hb d_MO_start_12 rfl (lv_at hl 3 rfl) ?_
    refine fm_cs S (c_MO_words l dC dI fa cB f i (by omega) (fun _ => hq)) rfl rfl k_MO_words q_3_175 ⟨Nat.le_of_ble_eq_true rfl, Nat.le_of_ble_eq_true rfl⟩ (hP.sub [0] rfl) (hK.sub [0] rfl) rfl hl.1 rfl (Nat.le_of_ble_eq_true rfl) ⟨Nat.zero_le _, Nat.zero_le _⟩ d_MO_start_13 ?_
    have f0_13 := fm_WD_le (fm_RB_lt f) i
    refine lv_iadd hx hb d_MO_start_16 ?_
    refine fm_tw (z := nI (fm_ST (fm_RB f) i + fm_WD (fm_RB f) i)) (nI_add _ _) ?_
    refine lv_istore_n (lv' := [(2, .int (nI (fm_ST (fm_RB f) i + fm_WD (fm_RB f) i))), (0, .ref fa), (1, .int (nI (p))), (3, .int (nI (i)))]) hx hb d_MO_start_17 rfl hl (by decide) rfl (fun ls hl => ?_)
    refine lv_iinc (v := nI (i + 1)) (lv' := [(3, .int (nI (i + 1))), (2, .int (nI (fm_ST (fm_RB f) i + fm_WD (fm_RB f) i))), (0, .ref fa), (1, .int (nI (p)))]) hx hb d_MO_start_18 hl (k := 3) rfl (nI_1 _) (by decide) rfl (fun ls hl => ?_)
    refine lv_goto (tgt := 5) hx hb d_MO_start_21 (by decide) ?_
    exact ih_5 (i + 1) ls (by omega) (by omega) (lv_sub hl [2, 3, 1, 0] rfl)
theorem d_MO_at_0 : decode b_MO_at 0 = .ok (.aload_n 0, 1) := by decide +kernel
theorem d_MO_at_1 : decode b_MO_at 1 = .ok (.iconst 4, 1) := by decide +kernel
theorem d_MO_at_2 : decode b_MO_at 2 = .ok (.aload_n 0, 1) := by decide +kernel
theorem d_MO_at_3 : decode b_MO_at 3 = .ok (.iload_n 1, 1) := by decide +kernel
theorem d_MO_at_4 : decode b_MO_at 4 = .ok (.invokestatic 40, 3) := by decide +kernel
theorem d_MO_at_7 : decode b_MO_at 7 = .ok (.iload_n 2, 1) := by decide +kernel
theorem d_MO_at_8 : decode b_MO_at 8 = .ok (.iadd, 1) := by decide +kernel
theorem d_MO_at_9 : decode b_MO_at 9 = .ok (.imul, 1) := by decide +kernel
theorem d_MO_at_10 : decode b_MO_at 10 = .ok (.iload_n 3, 1) := by decide +kernel
theorem d_MO_at_11 : decode b_MO_at 11 = .ok (.iadd, 1) := by decide +kernel
theorem d_MO_at_12 : decode b_MO_at 12 = .ok (.baload, 1) := by decide +kernel
theorem d_MO_at_13 : decode b_MO_at 13 = .ok (.sipush 255, 3) := by decide +kernel
theorem d_MO_at_16 : decode b_MO_at 16 = .ok (.iand, 1) := by decide +kernel
theorem d_MO_at_17 : decode b_MO_at 17 = .ok (.ireturn, 1) := by decide +kernel
set_option maxHeartbeats 4000000 in
set_option maxRecDepth 100000 in
theorem c_MO_at (l : Launch) (dC : Nat → ClassId) (dI : Nat → Nat → Nat) (fa : Nat) (cB : ClassId) (f : Nat → Int32) (p : Nat) (k : Nat) (b : Nat) (hp : p < 10) (hq : fm_HF (fm_RB f) 2 ≤ fm_HF (fm_RB f) 3 + 1) (hr : fm_ST (fm_RB f) p + k < 2048) (hb : b < 4) : fm_M l (dC, dI) y_MO_at w_MO_at ({ frames := 3, cells := 0, slots := 0, locals := 65 }) [.ref fa, .int (nI (p)), .int (nI (k)), .int (nI (b))] [(fa, .inl (cB, 8192, .inl (f)))] [(cB, .byte)] (nI (fm_AT (fm_RB f) p k b)) := by
  refine Met.ofW (cc := b_MO_at) (maxL := 4) (ret := (some .int)) (by decide) rfl ?_
  intro pg ev s m args below meth cd s₁ BD hml hv
  obtain ⟨rfl, hP, hK⟩ := hv
  have hx := BD.exec
  have hb := BD.bytes
  have hr := BD.returns
  have hts := atoms_spec (ws := w_MO_at) BD.pre
  have ht : ∀ w ∈ fm_T, w.before _ s = true := fun w h => hts w (List.mem_cons_of_mem _ h)
  have hown : s.vm.findClass R_MO = some m.cls := findClass_of_methodNamed BD.named
  have hlocks := BD.notSynchronized
  have S : CallFix pg m cd b_MO_at 4 s _ w_MO_at R_MO := ⟨hx, hb, hml, hown, hts⟩
  have hl := lv_entry ([.ref fa, .int (nI (p)), .int (nI (k)), .int (nI (b))]) (n := 4) (Nat.le_of_ble_eq_true rfl)
  rw [lg_entry_eq]
  generalize (lg_sl ([.ref fa, .int (nI (p)), .int (nI (k)), .int (nI (b))]) ++ List.replicate (4 - (lg_sl ([.ref fa, .int (nI (p)), .int (nI (k)), .int (nI (b))])).length) Slot.unset).toArray = ls at hl ⊢
  have hl : lv_has ls 4 [(0, .ref fa), (1, .int (nI (p))), (2, .int (nI (k))), (3, .int (nI (b)))] := hl
  refine lv_aload_n hx hb d_MO_at_0 rfl (lv_at hl 0 rfl) ?_
  refine lv_iconst (v := nI (4)) hx hb d_MO_at_1 (by decide) ?_
  refine lv_aload_n hx hb d_MO_at_2 rfl (lv_at hl 0 rfl) ?_
  refine lv_iload_n hx hb d_MO_at_3 rfl (lv_at hl 1 rfl) ?_
  refine fm_cs S (c_MO_start l dC dI fa cB f p (by omega) (hq)) rfl rfl k_MO_start q_3_178 ⟨Nat.le_of_ble_eq_true rfl, Nat.le_of_ble_eq_true rfl⟩ (hP.sub [0] rfl) (hK.sub [0] rfl) rfl hl.1 rfl (Nat.le_of_ble_eq_true rfl) ⟨Nat.zero_le _, Nat.zero_le _⟩ d_MO_at_4 ?_
  have f0_4 := fm_ST_le (fm_RB_lt f) p
  refine lv_iload_n hx hb d_MO_at_7 rfl (lv_at hl 2 rfl) ?_
  refine lv_iadd hx hb d_MO_at_8 ?_
  refine fm_tw (z := nI (fm_ST (fm_RB f) p + k)) (nI_add _ _) ?_
  refine lv_imul hx hb d_MO_at_9 ?_
  refine fm_tw (z := nI (4 * (fm_ST (fm_RB f) p + k))) (pk_mul _ _) ?_
  refine lv_iload_n hx hb d_MO_at_10 rfl (lv_at hl 3 rfl) ?_
  refine lv_iadd hx hb d_MO_at_11 ?_
  refine fm_tw (z := nI (4 * (fm_ST (fm_RB f) p + k) + b)) (nI_add _ _) ?_
  refine va_bald hx hb hK hP 0 0 rfl rfl (vp_in_nI (by omega) (by omega)) d_MO_at_12 ?_
  refine fm_tw (z := f (4 * (fm_ST (fm_RB f) p + k) + b)) (by rw [nI_clamp (by omega)]) ?_
  refine lv_sipush (v := nI (255)) hx hb d_MO_at_13 (by decide) ?_
  refine lv_iand hx hb d_MO_at_16 ?_
  refine fm_tw (z := nI (fm_RB f (4 * (fm_ST (fm_RB f) p + k) + b))) (fm_RB_and _ _) ?_
  exact W.iret hx hb hr (fun t ht hW => ⟨_, rfl, rfl, ht⟩) (fun q hq => by cases hq) d_MO_at_17
theorem d_MO_far_0 : decode b_MO_far 0 = .ok (.sipush 256, 3) := by decide +kernel
theorem d_MO_far_3 : decode b_MO_far 3 = .ok (.aload_n 0, 1) := by decide +kernel
theorem d_MO_far_4 : decode b_MO_far 4 = .ok (.bipush 6, 2) := by decide +kernel
theorem d_MO_far_6 : decode b_MO_far 6 = .ok (.iload_n 1, 1) := by decide +kernel
theorem d_MO_far_7 : decode b_MO_far 7 = .ok (.iconst 2, 1) := by decide +kernel
theorem d_MO_far_8 : decode b_MO_far 8 = .ok (.invokestatic 43, 3) := by decide +kernel
theorem d_MO_far_11 : decode b_MO_far 11 = .ok (.imul, 1) := by decide +kernel
theorem d_MO_far_12 : decode b_MO_far 12 = .ok (.aload_n 0, 1) := by decide +kernel
theorem d_MO_far_13 : decode b_MO_far 13 = .ok (.bipush 6, 2) := by decide +kernel
theorem d_MO_far_15 : decode b_MO_far 15 = .ok (.iload_n 1, 1) := by decide +kernel
theorem d_MO_far_16 : decode b_MO_far 16 = .ok (.iconst 3, 1) := by decide +kernel
theorem d_MO_far_17 : decode b_MO_far 17 = .ok (.invokestatic 43, 3) := by decide +kernel
theorem d_MO_far_20 : decode b_MO_far 20 = .ok (.iadd, 1) := by decide +kernel
theorem d_MO_far_21 : decode b_MO_far 21 = .ok (.ireturn, 1) := by decide +kernel
set_option maxHeartbeats 4000000 in
set_option maxRecDepth 100000 in
theorem c_MO_far (l : Launch) (dC : Nat → ClassId) (dI : Nat → Nat → Nat) (fa : Nat) (cB : ClassId) (f : Nat → Int32) (k : Nat) (hq : fm_HF (fm_RB f) 2 ≤ fm_HF (fm_RB f) 3 + 1) (hr : fm_ST (fm_RB f) 6 + k < 2048) : fm_M l (dC, dI) y_MO_far w_MO_far ({ frames := 4, cells := 0, slots := 0, locals := 88 }) [.ref fa, .int (nI (k))] [(fa, .inl (cB, 8192, .inl (f)))] [(cB, .byte)] (nI (fm_FAR (fm_RB f) k)) := by
  refine Met.ofW (cc := b_MO_far) (maxL := 2) (ret := (some .int)) (by decide) rfl ?_
  intro pg ev s m args below meth cd s₁ BD hml hv
  obtain ⟨rfl, hP, hK⟩ := hv
  have hx := BD.exec
  have hb := BD.bytes
  have hr := BD.returns
  have hts := atoms_spec (ws := w_MO_far) BD.pre
  have ht : ∀ w ∈ fm_T, w.before _ s = true := fun w h => hts w (List.mem_cons_of_mem _ h)
  have hown : s.vm.findClass R_MO = some m.cls := findClass_of_methodNamed BD.named
  have hlocks := BD.notSynchronized
  have S : CallFix pg m cd b_MO_far 2 s _ w_MO_far R_MO := ⟨hx, hb, hml, hown, hts⟩
  have hl := lv_entry ([.ref fa, .int (nI (k))]) (n := 2) (Nat.le_of_ble_eq_true rfl)
  rw [lg_entry_eq]
  generalize (lg_sl ([.ref fa, .int (nI (k))]) ++ List.replicate (2 - (lg_sl ([.ref fa, .int (nI (k))])).length) Slot.unset).toArray = ls at hl ⊢
  have hl : lv_has ls 2 [(0, .ref fa), (1, .int (nI (k)))] := hl
  refine lv_sipush (v := nI (256)) hx hb d_MO_far_0 (by decide) ?_
  refine lv_aload_n hx hb d_MO_far_3 rfl (lv_at hl 0 rfl) ?_
  refine lv_bipush (v := nI (6)) hx hb d_MO_far_4 (by decide) ?_
  refine lv_iload_n hx hb d_MO_far_6 rfl (lv_at hl 1 rfl) ?_
  refine lv_iconst (v := nI (2)) hx hb d_MO_far_7 (by decide) ?_
  refine fm_cs S (c_MO_at l dC dI fa cB f 6 k 2 (by omega) (hq) (by omega) (by omega)) rfl rfl k_MO_at q_3_184 ⟨Nat.le_of_ble_eq_true rfl, Nat.le_of_ble_eq_true rfl⟩ (hP.sub [0] rfl) (hK.sub [0] rfl) rfl hl.1 rfl (Nat.le_of_ble_eq_true rfl) ⟨Nat.zero_le _, Nat.zero_le _⟩ d_MO_far_8 ?_
  have f0_8 := fm_AT_lt (fm_RB_lt f) 6 k 2
  refine lv_imul hx hb d_MO_far_11 ?_
  refine fm_tw (z := nI (256 * (fm_AT (fm_RB f) 6 k 2))) (pk_mul _ _) ?_
  refine lv_aload_n hx hb d_MO_far_12 rfl (lv_at hl 0 rfl) ?_
  refine lv_bipush (v := nI (6)) hx hb d_MO_far_13 (by decide) ?_
  refine lv_iload_n hx hb d_MO_far_15 rfl (lv_at hl 1 rfl) ?_
  refine lv_iconst (v := nI (3)) hx hb d_MO_far_16 (by decide) ?_
  refine fm_cs S (c_MO_at l dC dI fa cB f 6 k 3 (by omega) (hq) (by omega) (by omega)) rfl rfl k_MO_at q_3_184 ⟨Nat.le_of_ble_eq_true rfl, Nat.le_of_ble_eq_true rfl⟩ (hP.sub [0] rfl) (hK.sub [0] rfl) rfl hl.1 rfl (Nat.le_of_ble_eq_true rfl) ⟨Nat.zero_le _, Nat.zero_le _⟩ d_MO_far_17 ?_
  have f0_17 := fm_AT_lt (fm_RB_lt f) 6 k 3
  refine lv_iadd hx hb d_MO_far_20 ?_
  refine fm_tw (z := nI (256 * (fm_AT (fm_RB f) 6 k 2) + fm_AT (fm_RB f) 6 k 3)) (nI_add _ _) ?_
  exact W.iret hx hb hr (fun t ht hW => ⟨_, rfl, rfl, ht⟩) (fun q hq => by cases hq) d_MO_far_21
theorem d_MO_isThere_0 : decode b_MO_isThere 0 = .ok (.iload_n 1, 1) := by decide +kernel
theorem d_MO_isThere_1 : decode b_MO_isThere 1 = .ok (.aload_n 0, 1) := by decide +kernel
theorem d_MO_isThere_2 : decode b_MO_isThere 2 = .ok (.iconst 2, 1) := by decide +kernel
theorem d_MO_isThere_3 : decode b_MO_isThere 3 = .ok (.invokestatic 33, 3) := by decide +kernel
theorem d_MO_isThere_6 : decode b_MO_isThere 6 = .ok (.if_icmp .lt 32, 3) := by decide +kernel
theorem d_MO_isThere_9 : decode b_MO_isThere 9 = .ok (.iload_n 1, 1) := by decide +kernel
theorem d_MO_isThere_10 : decode b_MO_isThere 10 = .ok (.aload_n 0, 1) := by decide +kernel
theorem d_MO_isThere_11 : decode b_MO_isThere 11 = .ok (.iconst 3, 1) := by decide +kernel
theorem d_MO_isThere_12 : decode b_MO_isThere 12 = .ok (.invokestatic 33, 3) := by decide +kernel
theorem d_MO_isThere_15 : decode b_MO_isThere 15 = .ok (.if_icmp .gt 23, 3) := by decide +kernel
theorem d_MO_isThere_18 : decode b_MO_isThere 18 = .ok (.aload_n 0, 1) := by decide +kernel
theorem d_MO_isThere_19 : decode b_MO_isThere 19 = .ok (.iconst 1, 1) := by decide +kernel
theorem d_MO_isThere_20 : decode b_MO_isThere 20 = .ok (.iload_n 1, 1) := by decide +kernel
theorem d_MO_isThere_21 : decode b_MO_isThere 21 = .ok (.aload_n 0, 1) := by decide +kernel
theorem d_MO_isThere_22 : decode b_MO_isThere 22 = .ok (.iconst 2, 1) := by decide +kernel
theorem d_MO_isThere_23 : decode b_MO_isThere 23 = .ok (.invokestatic 33, 3) := by decide +kernel
theorem d_MO_isThere_26 : decode b_MO_isThere 26 = .ok (.isub, 1) := by decide +kernel
theorem d_MO_isThere_27 : decode b_MO_isThere 27 = .ok (.iconst 0, 1) := by decide +kernel
theorem d_MO_isThere_28 : decode b_MO_isThere 28 = .ok (.invokestatic 43, 3) := by decide +kernel
theorem d_MO_isThere_31 : decode b_MO_isThere 31 = .ok (.ifCond .le 7, 3) := by decide +kernel
theorem d_MO_isThere_34 : decode b_MO_isThere 34 = .ok (.iconst 1, 1) := by decide +kernel
theorem d_MO_isThere_35 : decode b_MO_isThere 35 = .ok (.goto 4, 3) := by decide +kernel
theorem d_MO_isThere_38 : decode b_MO_isThere 38 = .ok (.iconst 0, 1) := by decide +kernel
theorem d_MO_isThere_39 : decode b_MO_isThere 39 = .ok (.ireturn, 1) := by decide +kernel
set_option maxHeartbeats 4000000 in
set_option maxRecDepth 100000 in
theorem c_MO_isThere (l : Launch) (dC : Nat → ClassId) (dI : Nat → Nat → Nat) (fa : Nat) (cB : ClassId) (f : Nat → Int32) (c : Int32) (hL : fm_Len (fm_RB f)) : fm_M l (dC, dI) y_MO_isThere w_MO_isThere ({ frames := 4, cells := 0, slots := 0, locals := 88 }) [.ref fa, .int (c)] [(fa, .inl (cB, 8192, .inl (f)))] [(cB, .byte)] ((fm_bI (fm_thI (fm_RB f) c))) := by
  refine Met.ofW (cc := b_MO_isThere) (maxL := 2) (ret := (some .boolean)) (by decide) rfl ?_
  intro pg ev s m args below meth cd s₁ BD hml hv
  obtain ⟨rfl, hP, hK⟩ := hv
  have hx := BD.exec
  have hb := BD.bytes
  have hr := BD.returns
  have hts := atoms_spec (ws := w_MO_isThere) BD.pre
  have ht : ∀ w ∈ fm_T, w.before _ s = true := fun w h => hts w (List.mem_cons_of_mem _ h)
  have hown : s.vm.findClass R_MO = some m.cls := findClass_of_methodNamed BD.named
  have hlocks := BD.notSynchronized
  have S : CallFix pg m cd b_MO_isThere 2 s _ w_MO_isThere R_MO := ⟨hx, hb, hml, hown, hts⟩
  have hl := lv_entry ([.ref fa, .int (c)]) (n := 2) (Nat.le_of_ble_eq_true rfl)
  rw [lg_entry_eq]
  generalize (lg_sl ([.ref fa, .int (c)]) ++ List.replicate (2 - (lg_sl ([.ref fa, .int (c)])).length) Slot.unset).toArray = ls at hl ⊢
  have hl : lv_has ls 2 [(0, .ref fa), (1, .int (c))] := hl
  obtain ⟨-, hq, h3, h10⟩ := id hL
  refine lv_iload_n hx hb d_MO_isThere_0 rfl (lv_at hl 1 rfl) ?_
  refine lv_aload_n hx hb d_MO_isThere_1 rfl (lv_at hl 0 rfl) ?_
  refine lv_iconst (v := nI (2)) hx hb d_MO_isThere_2 (by decide) ?_
  refine fm_cs S (c_MO_half l dC dI fa cB f 2 (by omega)) rfl rfl k_MO_half q_3_172 ⟨Nat.le_of_ble_eq_true rfl, Nat.le_of_ble_eq_true rfl⟩ (hP.sub [0] rfl) (hK.sub [0] rfl) rfl hl.1 rfl (Nat.le_of_ble_eq_true rfl) ⟨Nat.zero_le _, Nat.zero_le _⟩ d_MO_isThere_3 ?_
  have f0_3 := fm_HF_lt (fm_RB_lt f) 2
  refine lv_icmp_lt (tgt := 38) hx hb d_MO_isThere_6 (by decide) (fun c0 => ?_) (fun c0 => ?_)
  · have c_6 := c0
    refine lv_iconst (v := nI (0)) hx hb d_MO_isThere_38 (by decide) ?_
    exact W.zret (ty := .boolean) hx hb hr (rfl) (fun t ht hW => ⟨_, rfl, by first | (rw [fm_thI_lt (fm_RB_lt f) c_6]; rfl) | (rw [fm_thI_n hn, fm_th_f1 c_15]; rfl) | (rw [fm_thI_n hn, fm_th_f2 c_31]; rfl), ht⟩) (fun q hq => by cases hq) d_MO_isThere_39
  · have c_6 := c0
    obtain ⟨n, hn, hcn, rfl⟩ := fm_ge (by omega) c_6
    refine lv_iload_n hx hb d_MO_isThere_9 rfl (lv_at hl 1 rfl) ?_
    refine lv_aload_n hx hb d_MO_isThere_10 rfl (lv_at hl 0 rfl) ?_
    refine lv_iconst (v := nI (3)) hx hb d_MO_isThere_11 (by decide) ?_
    refine fm_cs S (c_MO_half l dC dI fa cB f 3 (by omega)) rfl rfl k_MO_half q_3_172 ⟨Nat.le_of_ble_eq_true rfl, Nat.le_of_ble_eq_true rfl⟩ (hP.sub [0] rfl) (hK.sub [0] rfl) rfl hl.1 rfl (Nat.le_of_ble_eq_true rfl) ⟨Nat.zero_le _, Nat.zero_le _⟩ d_MO_isThere_12 ?_
    have f0_12 := fm_HF_lt (fm_RB_lt f) 3
    refine lv_icmp_gt (tgt := 38) hx hb d_MO_isThere_15 (by decide) (fun c0 => ?_) (fun c0 => ?_)
    · have c_15 : fm_HF (fm_RB f) 3 < n := (nI_ltI (a := fm_HF (fm_RB f) 3) (b := n) (by omega) (by omega)).mp c0
      refine lv_iconst (v := nI (0)) hx hb d_MO_isThere_38 (by decide) ?_
      exact W.zret (ty := .boolean) hx hb hr (rfl) (fun t ht hW => ⟨_, rfl, by first | (rw [fm_thI_lt (fm_RB_lt f) c_6]; rfl) | (rw [fm_thI_n hn, fm_th_f1 c_15]; rfl) | (rw [fm_thI_n hn, fm_th_f2 c_31]; rfl), ht⟩) (fun q hq => by cases hq) d_MO_isThere_39
    · have c_15 : ¬ (fm_HF (fm_RB f) 3 < n) := fun z => c0 ((nI_ltI (a := fm_HF (fm_RB f) 3) (b := n) (by omega) (by omega)).mpr z)
      have hin := fm_in (B := fm_RB f) (p := 1) (k := n - fm_HF (fm_RB f) 2) (q := 10) (by rw [fm_WD1]; omega) (by decide)
      refine lv_aload_n hx hb d_MO_isThere_18 rfl (lv_at hl 0 rfl) ?_
      refine lv_iconst (v := nI (1)) hx hb d_MO_isThere_19 (by decide) ?_
      refine lv_iload_n hx hb d_MO_isThere_20 rfl (lv_at hl 1 rfl) ?_
      refine lv_aload_n hx hb d_MO_isThere_21 rfl (lv_at hl 0 rfl) ?_
      refine lv_iconst (v := nI (2)) hx hb d_MO_isThere_22 (by decide) ?_
      refine fm_cs S (c_MO_half l dC dI fa cB f 2 (by omega)) rfl rfl k_MO_half q_3_172 ⟨Nat.le_of_ble_eq_true rfl, Nat.le_of_ble_eq_true rfl⟩ (hP.sub [0] rfl) (hK.sub [0] rfl) rfl hl.1 rfl (Nat.le_of_ble_eq_true rfl) ⟨Nat.zero_le _, Nat.zero_le _⟩ d_MO_isThere_23 ?_
      have f0_23 := fm_HF_lt (fm_RB_lt f) 2
      refine lv_isub hx hb d_MO_isThere_26 ?_
      refine fm_tw (z := nI (n - (fm_HF (fm_RB f) 2))) (pk_sub (by omega)) ?_
      refine lv_iconst (v := nI (0)) hx hb d_MO_isThere_27 (by decide) ?_
      refine fm_cs S (c_MO_at l dC dI fa cB f 1 (n - (fm_HF (fm_RB f) 2)) 0 (by omega) (hq) (by omega) (by omega)) rfl rfl k_MO_at q_3_184 ⟨Nat.le_of_ble_eq_true rfl, Nat.le_of_ble_eq_true rfl⟩ (hP.sub [0] rfl) (hK.sub [0] rfl) rfl hl.1 rfl (Nat.le_of_ble_eq_true rfl) ⟨Nat.zero_le _, Nat.zero_le _⟩ d_MO_isThere_28 ?_
      have f0_28 := fm_AT_lt (fm_RB_lt f) 1 (n - (fm_HF (fm_RB f) 2)) 0
      refine lv_if_le (tgt := 38) hx hb d_MO_isThere_31 (by decide) (fun c0 => ?_) (fun c0 => ?_)
      · have c_31 : fm_AT (fm_RB f) 1 (n - (fm_HF (fm_RB f) 2)) 0 ≤ 0 := (nI_leI (a := fm_AT (fm_RB f) 1 (n - (fm_HF (fm_RB f) 2)) 0) (b := 0) (by omega) (by omega)).mp c0
        refine lv_iconst (v := nI (0)) hx hb d_MO_isThere_38 (by decide) ?_
        exact W.zret (ty := .boolean) hx hb hr (rfl) (fun t ht hW => ⟨_, rfl, by first | (rw [fm_thI_lt (fm_RB_lt f) c_6]; rfl) | (rw [fm_thI_n hn, fm_th_f1 c_15]; rfl) | (rw [fm_thI_n hn, fm_th_f2 c_31]; rfl), ht⟩) (fun q hq => by cases hq) d_MO_isThere_39
      · have c_31 : ¬ (fm_AT (fm_RB f) 1 (n - (fm_HF (fm_RB f) 2)) 0 ≤ 0) := fun z => c0 ((nI_leI (a := fm_AT (fm_RB f) 1 (n - (fm_HF (fm_RB f) 2)) 0) (b := 0) (by omega) (by omega)).mpr z)
        refine lv_iconst (v := nI (1)) hx hb d_MO_isThere_34 (by decide) ?_
        refine lv_goto (tgt := 39) hx hb d_MO_isThere_35 (by decide) ?_
        exact W.zret (ty := .boolean) hx hb hr (rfl) (fun t ht hW => ⟨_, rfl, by rw [fm_thI_n hn, fm_th_t hcn (by omega) c_31]; rfl, ht⟩) (fun q hq => by cases hq) d_MO_isThere_39
