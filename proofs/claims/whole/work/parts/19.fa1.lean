theorem d_FA_numbersAreSmall_0 : decode b_FA_numbersAreSmall 0 = .ok (.iconst 0, 1) := by decide +kernel
theorem d_FA_numbersAreSmall_1 : decode b_FA_numbersAreSmall 1 = .ok (.istore_n 1, 1) := by decide +kernel
theorem d_FA_numbersAreSmall_2 : decode b_FA_numbersAreSmall 2 = .ok (.iload_n 1, 1) := by decide +kernel
theorem d_FA_numbersAreSmall_3 : decode b_FA_numbersAreSmall 3 = .ok (.bipush 12, 2) := by decide +kernel
theorem d_FA_numbersAreSmall_5 : decode b_FA_numbersAreSmall 5 = .ok (.if_icmp .ge 22, 3) := by decide +kernel
theorem d_FA_numbersAreSmall_8 : decode b_FA_numbersAreSmall 8 = .ok (.aload_n 0, 1) := by decide +kernel
theorem d_FA_numbersAreSmall_9 : decode b_FA_numbersAreSmall 9 = .ok (.iload_n 1, 1) := by decide +kernel
theorem d_FA_numbersAreSmall_10 : decode b_FA_numbersAreSmall 10 = .ok (.invokevirtual 53, 3) := by decide +kernel
theorem d_FA_numbersAreSmall_13 : decode b_FA_numbersAreSmall 13 = .ok (.sipush 32767, 3) := by decide +kernel
theorem d_FA_numbersAreSmall_16 : decode b_FA_numbersAreSmall 16 = .ok (.if_icmp .le 5, 3) := by decide +kernel
theorem d_FA_numbersAreSmall_19 : decode b_FA_numbersAreSmall 19 = .ok (.iconst 0, 1) := by decide +kernel
theorem d_FA_numbersAreSmall_20 : decode b_FA_numbersAreSmall 20 = .ok (.ireturn, 1) := by decide +kernel
theorem d_FA_numbersAreSmall_21 : decode b_FA_numbersAreSmall 21 = .ok (.iinc 1 1, 3) := by decide +kernel
theorem d_FA_numbersAreSmall_24 : decode b_FA_numbersAreSmall 24 = .ok (.goto (-22), 3) := by decide +kernel
theorem d_FA_numbersAreSmall_27 : decode b_FA_numbersAreSmall 27 = .ok (.iconst 1, 1) := by decide +kernel
theorem d_FA_numbersAreSmall_28 : decode b_FA_numbersAreSmall 28 = .ok (.ireturn, 1) := by decide +kernel
set_option maxHeartbeats 4000000 in
set_option maxRecDepth 100000 in
theorem c_FA_numbersAreSmall (l : Launch) (dC : Nat → ClassId) (dI : Nat → Nat → Nat) (o : Nat) (wa : Nat) (sa : Nat) (la : Nat) (bc : Int32) (ec : Int32) (sz : Int32) (sc : Int32) (hv : Int32) (cI : ClassId) (w : Nat → Int32) (st : Nat → Int32) (ln : Nat → Int32)  : fm_M l (dC, dI) y_FA_numbersAreSmall w_FA_numbersAreSmall ({ frames := 1, cells := 0, slots := 0, locals := 23 }) [.ref o] [(o, .inr (1, [.ref wa, .ref sa, .ref la, .int (bc), .int (ec), .int (sz), .int (sc), .int (hv)])), (wa, .inl (cI, 2048, .inl (w))), (sa, .inl (cI, 10, .inl (st))), (la, .inl (cI, 10, .inl (ln)))] [(cI, .int)] ((fm_bI (fm_all 12 (fm_smw w)))) := by
  refine Met.ofW (cc := b_FA_numbersAreSmall) (maxL := 2) (ret := (some .boolean)) (by decide) rfl ?_
  intro pg ev s m args below meth cd s₁ BD hml hv
  obtain ⟨rfl, hP, hK⟩ := hv
  have hx := BD.exec
  have hb := BD.bytes
  have hr := BD.returns
  have hts := atoms_spec (ws := w_FA_numbersAreSmall) BD.pre
  have ht : ∀ w ∈ fm_T, w.before _ s = true := fun w h => hts w (List.mem_cons_of_mem _ h)
  have hown : s.vm.findClass R_FA = some m.cls := findClass_of_methodNamed BD.named
  have hlocks := BD.notSynchronized
  have S : CallFix pg m cd b_FA_numbersAreSmall 2 s _ w_FA_numbersAreSmall R_FA := ⟨hx, hb, hml, hown, hts⟩
  have hl := lv_entry ([.ref o]) (n := 2) (Nat.le_of_ble_eq_true rfl)
  rw [lg_entry_eq]
  generalize (lg_sl ([.ref o]) ++ List.replicate (2 - (lg_sl ([.ref o])).length) Slot.unset).toArray = ls at hl ⊢
  have hl : lv_has ls 2 [(0, .ref o)] := hl
  refine lv_iconst (v := nI (0)) hx hb d_FA_numbersAreSmall_0 (by decide) ?_
  refine lv_istore_n (lv' := [(1, .int (nI (0))), (0, .ref o)]) hx hb d_FA_numbersAreSmall_1 rfl hl (by decide) rfl (fun ls hl => ?_)
  refine fm_loop1 (LV := fun (i : Nat) => [(0, .ref o), (1, .int (nI (i)))]) (I := fun (i : Nat) => i ≤ 12 ∧ fm_all i (fm_smw w) = true) (μ := fun (i : Nat) => 12 - i) ?_ 0 (⟨Nat.zero_le _, rfl⟩) ls (lv_sub hl [1, 0] rfl)
  intro i hI_2 ih_2 ls hl
  have hl : lv_has ls 2 [(0, .ref o), (1, .int (nI (i)))] := hl
  obtain ⟨hi, hal⟩ := hI_2
  refine lv_iload_n hx hb d_FA_numbersAreSmall_2 rfl (lv_at hl 1 rfl) ?_
  refine lv_bipush (v := nI (12)) hx hb d_FA_numbersAreSmall_3 (by decide) ?_
  refine lv_icmp_ge (tgt := 27) hx hb d_FA_numbersAreSmall_5 (by decide) (fun c0 => ?_) (fun c0 => ?_)
  · have c_5 : 12 ≤ i := (nI_leI (a := 12) (b := i) (by omega) (by omega)).mp c0
    refine lv_iconst (v := nI (1)) hx hb d_FA_numbersAreSmall_27 (by decide) ?_
    exact W.zret (ty := .boolean) hx hb hr (rfl) (fun t ht hW => ⟨_, rfl, fm_bI_1 (by rw [← hal, show i = 12 by omega]), ht⟩) (fun q hq => by cases hq) d_FA_numbersAreSmall_28
  · have c_5 : ¬ (12 ≤ i) := fun z => c0 ((nI_leI (a := 12) (b := i) (by omega) (by omega)).mpr z)
    refine lv_aload_n hx hb d_FA_numbersAreSmall_8 rfl (lv_at hl 0 rfl) ?_
    refine lv_iload_n hx hb d_FA_numbersAreSmall_9 rfl (lv_at hl 1 rfl) ?_
    refine fm_cv S (c_FO_number l dC dI o wa sa la bc ec sz sc hv cI w st ln i (by omega)) rfl rfl k_FO_number q_2_54 ⟨Nat.le_of_ble_eq_true rfl, Nat.le_of_ble_eq_true rfl⟩ (hP.sub [0, 1, 2, 3] rfl) (hK.sub [0] rfl) 0 rfl rfl rfl hl.1 rfl (Nat.le_of_ble_eq_true rfl) ⟨Nat.zero_le _, Nat.zero_le _⟩ d_FA_numbersAreSmall_10 ?_
    have f0_10 := fm_nb_lt w i
    refine lv_sipush (v := nI (32767)) hx hb d_FA_numbersAreSmall_13 (by decide) ?_
    refine lv_icmp_le (tgt := 21) hx hb d_FA_numbersAreSmall_16 (by decide) (fun c0 => ?_) (fun c0 => ?_)
    · have c_16 : fm_nb w i ≤ 32767 := (nI_leI (a := fm_nb w i) (b := 32767) (by omega) (by omega)).mp c0
      refine lv_iinc (v := nI (i + 1)) (lv' := [(1, .int (nI (i + 1))), (0, .ref o)]) hx hb d_FA_numbersAreSmall_21 hl (k := 1) rfl (nI_1 _) (by decide) rfl (fun ls hl => ?_)
      refine lv_goto (tgt := 2) hx hb d_FA_numbersAreSmall_24 (by decide) ?_
      exact ih_2 (i + 1) ls (⟨by omega, by rw [fm_all, hal, Bool.true_and]; exact decide_eq_true c_16⟩) (by omega) (lv_sub hl [1, 0] rfl)
    · have c_16 : ¬ (fm_nb w i ≤ 32767) := fun z => c0 ((nI_leI (a := fm_nb w i) (b := 32767) (by omega) (by omega)).mpr z)
      refine lv_iconst (v := nI (0)) hx hb d_FA_numbersAreSmall_19 (by decide) ?_
      exact W.zret (ty := .boolean) hx hb hr (rfl) (fun t ht hW => ⟨_, rfl, fm_bI_0 (fm_all_no (by omega) (decide_eq_false c_16)), ht⟩) (fun q hq => by cases hq) d_FA_numbersAreSmall_20
theorem d_FA_partsAreEnough_0 : decode b_FA_partsAreEnough 0 = .ok (.aload_n 0, 1) := by decide +kernel
theorem d_FA_partsAreEnough_1 : decode b_FA_partsAreEnough 1 = .ok (.iconst 0, 1) := by decide +kernel
theorem d_FA_partsAreEnough_2 : decode b_FA_partsAreEnough 2 = .ok (.invokevirtual 57, 3) := by decide +kernel
theorem d_FA_partsAreEnough_5 : decode b_FA_partsAreEnough 5 = .ok (.iconst 2, 1) := by decide +kernel
theorem d_FA_partsAreEnough_6 : decode b_FA_partsAreEnough 6 = .ok (.if_icmp .lt 51, 3) := by decide +kernel
theorem d_FA_partsAreEnough_9 : decode b_FA_partsAreEnough 9 = .ok (.aload_n 0, 1) := by decide +kernel
theorem d_FA_partsAreEnough_10 : decode b_FA_partsAreEnough 10 = .ok (.iconst 2, 1) := by decide +kernel
theorem d_FA_partsAreEnough_11 : decode b_FA_partsAreEnough 11 = .ok (.invokevirtual 57, 3) := by decide +kernel
theorem d_FA_partsAreEnough_14 : decode b_FA_partsAreEnough 14 = .ok (.ifCond .le 43, 3) := by decide +kernel
theorem d_FA_partsAreEnough_17 : decode b_FA_partsAreEnough 17 = .ok (.aload_n 0, 1) := by decide +kernel
theorem d_FA_partsAreEnough_18 : decode b_FA_partsAreEnough 18 = .ok (.iconst 3, 1) := by decide +kernel
theorem d_FA_partsAreEnough_19 : decode b_FA_partsAreEnough 19 = .ok (.invokevirtual 57, 3) := by decide +kernel
theorem d_FA_partsAreEnough_22 : decode b_FA_partsAreEnough 22 = .ok (.ifCond .le 35, 3) := by decide +kernel
theorem d_FA_partsAreEnough_25 : decode b_FA_partsAreEnough 25 = .ok (.aload_n 0, 1) := by decide +kernel
theorem d_FA_partsAreEnough_26 : decode b_FA_partsAreEnough 26 = .ok (.iconst 4, 1) := by decide +kernel
theorem d_FA_partsAreEnough_27 : decode b_FA_partsAreEnough 27 = .ok (.invokevirtual 57, 3) := by decide +kernel
theorem d_FA_partsAreEnough_30 : decode b_FA_partsAreEnough 30 = .ok (.ifCond .le 27, 3) := by decide +kernel
theorem d_FA_partsAreEnough_33 : decode b_FA_partsAreEnough 33 = .ok (.aload_n 0, 1) := by decide +kernel
theorem d_FA_partsAreEnough_34 : decode b_FA_partsAreEnough 34 = .ok (.iconst 5, 1) := by decide +kernel
theorem d_FA_partsAreEnough_35 : decode b_FA_partsAreEnough 35 = .ok (.invokevirtual 57, 3) := by decide +kernel
theorem d_FA_partsAreEnough_38 : decode b_FA_partsAreEnough 38 = .ok (.ifCond .le 19, 3) := by decide +kernel
theorem d_FA_partsAreEnough_41 : decode b_FA_partsAreEnough 41 = .ok (.aload_n 0, 1) := by decide +kernel
theorem d_FA_partsAreEnough_42 : decode b_FA_partsAreEnough 42 = .ok (.bipush 8, 2) := by decide +kernel
theorem d_FA_partsAreEnough_44 : decode b_FA_partsAreEnough 44 = .ok (.invokevirtual 57, 3) := by decide +kernel
theorem d_FA_partsAreEnough_47 : decode b_FA_partsAreEnough 47 = .ok (.sipush 256, 3) := by decide +kernel
theorem d_FA_partsAreEnough_50 : decode b_FA_partsAreEnough 50 = .ok (.if_icmp .gt 7, 3) := by decide +kernel
theorem d_FA_partsAreEnough_53 : decode b_FA_partsAreEnough 53 = .ok (.iconst 1, 1) := by decide +kernel
theorem d_FA_partsAreEnough_54 : decode b_FA_partsAreEnough 54 = .ok (.goto 4, 3) := by decide +kernel
theorem d_FA_partsAreEnough_57 : decode b_FA_partsAreEnough 57 = .ok (.iconst 0, 1) := by decide +kernel
theorem d_FA_partsAreEnough_58 : decode b_FA_partsAreEnough 58 = .ok (.ireturn, 1) := by decide +kernel
set_option maxHeartbeats 4000000 in
set_option maxRecDepth 100000 in
theorem c_FA_partsAreEnough (l : Launch) (dC : Nat → ClassId) (dI : Nat → Nat → Nat) (o : Nat) (wa : Nat) (sa : Nat) (la : Nat) (bc : Int32) (ec : Int32) (sz : Int32) (sc : Int32) (hv : Int32) (cI : ClassId) (w : Nat → Int32) (st : Nat → Int32) (ln : Nat → Int32) (B : Nat → Nat) (hB : ∀ i, B i < 256) (hl2 : ∀ p, p < 10 → p ≠ 1 → ln p = nI (fm_WD B p)) : fm_M l (dC, dI) y_FA_partsAreEnough w_FA_partsAreEnough ({ frames := 1, cells := 0, slots := 0, locals := 21 }) [.ref o] [(o, .inr (1, [.ref wa, .ref sa, .ref la, .int (bc), .int (ec), .int (sz), .int (sc), .int (hv)])), (wa, .inl (cI, 2048, .inl (w))), (sa, .inl (cI, 10, .inl (st))), (la, .inl (cI, 10, .inl (ln)))] [(cI, .int)] ((fm_bI (!fm_few B))) := by
  refine Met.ofW (cc := b_FA_partsAreEnough) (maxL := 1) (ret := (some .boolean)) (by decide) rfl ?_
  intro pg ev s m args below meth cd s₁ BD hml hv
  obtain ⟨rfl, hP, hK⟩ := hv
  have hx := BD.exec
  have hb := BD.bytes
  have hr := BD.returns
  have hts := atoms_spec (ws := w_FA_partsAreEnough) BD.pre
  have ht : ∀ w ∈ fm_T, w.before _ s = true := fun w h => hts w (List.mem_cons_of_mem _ h)
  have hown : s.vm.findClass R_FA = some m.cls := findClass_of_methodNamed BD.named
  have hlocks := BD.notSynchronized
  have S : CallFix pg m cd b_FA_partsAreEnough 1 s _ w_FA_partsAreEnough R_FA := ⟨hx, hb, hml, hown, hts⟩
  have hl := lv_entry ([.ref o]) (n := 1) (Nat.le_of_ble_eq_true rfl)
  rw [lg_entry_eq]
  generalize (lg_sl ([.ref o]) ++ List.replicate (1 - (lg_sl ([.ref o])).length) Slot.unset).toArray = ls at hl ⊢
  have hl : lv_has ls 1 [(0, .ref o)] := hl
  have hw0 := fm_WD_le hB 0
  have hw2 := fm_WD_le hB 2
  have hw3 := fm_WD_le hB 3
  have hw4 := fm_WD_le hB 4
  have hw5 := fm_WD_le hB 5
  have hw8 := fm_WD_le hB 8
  refine lv_aload_n hx hb d_FA_partsAreEnough_0 rfl (lv_at hl 0 rfl) ?_
  refine lv_iconst (v := nI (0)) hx hb d_FA_partsAreEnough_1 (by decide) ?_
  refine fm_cv S (c_FO_lengthOf l dC dI o wa sa la bc ec sz sc hv cI w st ln 0 (by omega)) rfl rfl k_FO_lengthOf q_2_58 ⟨Nat.le_of_ble_eq_true rfl, Nat.le_of_ble_eq_true rfl⟩ (hP.sub [0, 1, 2, 3] rfl) (hK.sub [0] rfl) 0 rfl rfl rfl hl.1 rfl (Nat.le_of_ble_eq_true rfl) ⟨Nat.zero_le _, Nat.zero_le _⟩ d_FA_partsAreEnough_2 ?_
  refine fm_tw (z := nI (fm_WD B 0)) (hl2 0 (by decide) (by decide)) ?_
  refine lv_iconst (v := nI (2)) hx hb d_FA_partsAreEnough_5 (by decide) ?_
  refine lv_icmp_lt (tgt := 57) hx hb d_FA_partsAreEnough_6 (by decide) (fun c0 => ?_) (fun c0 => ?_)
  · have c_6 : fm_WD B 0 < 2 := (nI_ltI (a := fm_WD B 0) (b := 2) (by omega) (by omega)).mp c0
    refine lv_iconst (v := nI (0)) hx hb d_FA_partsAreEnough_57 (by decide) ?_
    exact W.zret (ty := .boolean) hx hb hr (rfl) (fun t ht hW => ⟨_, rfl, fm_bI_0 (by rw [fm_few_t (by omega)]; rfl), ht⟩) (fun q hq => by cases hq) d_FA_partsAreEnough_58
  · have c_6 : ¬ (fm_WD B 0 < 2) := fun z => c0 ((nI_ltI (a := fm_WD B 0) (b := 2) (by omega) (by omega)).mpr z)
    refine lv_aload_n hx hb d_FA_partsAreEnough_9 rfl (lv_at hl 0 rfl) ?_
    refine lv_iconst (v := nI (2)) hx hb d_FA_partsAreEnough_10 (by decide) ?_
    refine fm_cv S (c_FO_lengthOf l dC dI o wa sa la bc ec sz sc hv cI w st ln 2 (by omega)) rfl rfl k_FO_lengthOf q_2_58 ⟨Nat.le_of_ble_eq_true rfl, Nat.le_of_ble_eq_true rfl⟩ (hP.sub [0, 1, 2, 3] rfl) (hK.sub [0] rfl) 0 rfl rfl rfl hl.1 rfl (Nat.le_of_ble_eq_true rfl) ⟨Nat.zero_le _, Nat.zero_le _⟩ d_FA_partsAreEnough_11 ?_
    refine fm_tw (z := nI (fm_WD B 2)) (hl2 2 (by decide) (by decide)) ?_
    refine lv_if_le (tgt := 57) hx hb d_FA_partsAreEnough_14 (by decide) (fun c0 => ?_) (fun c0 => ?_)
    · have c_14 : fm_WD B 2 ≤ 0 := (nI_leI (a := fm_WD B 2) (b := 0) (by omega) (by omega)).mp c0
      refine lv_iconst (v := nI (0)) hx hb d_FA_partsAreEnough_57 (by decide) ?_
      exact W.zret (ty := .boolean) hx hb hr (rfl) (fun t ht hW => ⟨_, rfl, fm_bI_0 (by rw [fm_few_t (by omega)]; rfl), ht⟩) (fun q hq => by cases hq) d_FA_partsAreEnough_58
    · have c_14 : ¬ (fm_WD B 2 ≤ 0) := fun z => c0 ((nI_leI (a := fm_WD B 2) (b := 0) (by omega) (by omega)).mpr z)
      refine lv_aload_n hx hb d_FA_partsAreEnough_17 rfl (lv_at hl 0 rfl) ?_
      refine lv_iconst (v := nI (3)) hx hb d_FA_partsAreEnough_18 (by decide) ?_
      refine fm_cv S (c_FO_lengthOf l dC dI o wa sa la bc ec sz sc hv cI w st ln 3 (by omega)) rfl rfl k_FO_lengthOf q_2_58 ⟨Nat.le_of_ble_eq_true rfl, Nat.le_of_ble_eq_true rfl⟩ (hP.sub [0, 1, 2, 3] rfl) (hK.sub [0] rfl) 0 rfl rfl rfl hl.1 rfl (Nat.le_of_ble_eq_true rfl) ⟨Nat.zero_le _, Nat.zero_le _⟩ d_FA_partsAreEnough_19 ?_
      refine fm_tw (z := nI (fm_WD B 3)) (hl2 3 (by decide) (by decide)) ?_
      refine lv_if_le (tgt := 57) hx hb d_FA_partsAreEnough_22 (by decide) (fun c0 => ?_) (fun c0 => ?_)
      · have c_22 : fm_WD B 3 ≤ 0 := (nI_leI (a := fm_WD B 3) (b := 0) (by omega) (by omega)).mp c0
        refine lv_iconst (v := nI (0)) hx hb d_FA_partsAreEnough_57 (by decide) ?_
        exact W.zret (ty := .boolean) hx hb hr (rfl) (fun t ht hW => ⟨_, rfl, fm_bI_0 (by rw [fm_few_t (by omega)]; rfl), ht⟩) (fun q hq => by cases hq) d_FA_partsAreEnough_58
      · have c_22 : ¬ (fm_WD B 3 ≤ 0) := fun z => c0 ((nI_leI (a := fm_WD B 3) (b := 0) (by omega) (by omega)).mpr z)
        refine lv_aload_n hx hb d_FA_partsAreEnough_25 rfl (lv_at hl 0 rfl) ?_
        refine lv_iconst (v := nI (4)) hx hb d_FA_partsAreEnough_26 (by decide) ?_
        refine fm_cv S (c_FO_lengthOf l dC dI o wa sa la bc ec sz sc hv cI w st ln 4 (by omega)) rfl rfl k_FO_lengthOf q_2_58 ⟨Nat.le_of_ble_eq_true rfl, Nat.le_of_ble_eq_true rfl⟩ (hP.sub [0, 1, 2, 3] rfl) (hK.sub [0] rfl) 0 rfl rfl rfl hl.1 rfl (Nat.le_of_ble_eq_true rfl) ⟨Nat.zero_le _, Nat.zero_le _⟩ d_FA_partsAreEnough_27 ?_
        refine fm_tw (z := nI (fm_WD B 4)) (hl2 4 (by decide) (by decide)) ?_
        refine lv_if_le (tgt := 57) hx hb d_FA_partsAreEnough_30 (by decide) (fun c0 => ?_) (fun c0 => ?_)
        · have c_30 : fm_WD B 4 ≤ 0 := (nI_leI (a := fm_WD B 4) (b := 0) (by omega) (by omega)).mp c0
          refine lv_iconst (v := nI (0)) hx hb d_FA_partsAreEnough_57 (by decide) ?_
          exact W.zret (ty := .boolean) hx hb hr (rfl) (fun t ht hW => ⟨_, rfl, fm_bI_0 (by rw [fm_few_t (by omega)]; rfl), ht⟩) (fun q hq => by cases hq) d_FA_partsAreEnough_58
        · have c_30 : ¬ (fm_WD B 4 ≤ 0) := fun z => c0 ((nI_leI (a := fm_WD B 4) (b := 0) (by omega) (by omega)).mpr z)
          refine lv_aload_n hx hb d_FA_partsAreEnough_33 rfl (lv_at hl 0 rfl) ?_
          refine lv_iconst (v := nI (5)) hx hb d_FA_partsAreEnough_34 (by decide) ?_
          refine fm_cv S (c_FO_lengthOf l dC dI o wa sa la bc ec sz sc hv cI w st ln 5 (by omega)) rfl rfl k_FO_lengthOf q_2_58 ⟨Nat.le_of_ble_eq_true rfl, Nat.le_of_ble_eq_true rfl⟩ (hP.sub [0, 1, 2, 3] rfl) (hK.sub [0] rfl) 0 rfl rfl rfl hl.1 rfl (Nat.le_of_ble_eq_true rfl) ⟨Nat.zero_le _, Nat.zero_le _⟩ d_FA_partsAreEnough_35 ?_
          refine fm_tw (z := nI (fm_WD B 5)) (hl2 5 (by decide) (by decide)) ?_
          refine lv_if_le (tgt := 57) hx hb d_FA_partsAreEnough_38 (by decide) (fun c0 => ?_) (fun c0 => ?_)
          · have c_38 : fm_WD B 5 ≤ 0 := (nI_leI (a := fm_WD B 5) (b := 0) (by omega) (by omega)).mp c0
            refine lv_iconst (v := nI (0)) hx hb d_FA_partsAreEnough_57 (by decide) ?_
            exact W.zret (ty := .boolean) hx hb hr (rfl) (fun t ht hW => ⟨_, rfl, fm_bI_0 (by rw [fm_few_t (by omega)]; rfl), ht⟩) (fun q hq => by cases hq) d_FA_partsAreEnough_58
          · have c_38 : ¬ (fm_WD B 5 ≤ 0) := fun z => c0 ((nI_leI (a := fm_WD B 5) (b := 0) (by omega) (by omega)).mpr z)
            refine lv_aload_n hx hb d_FA_partsAreEnough_41 rfl (lv_at hl 0 rfl) ?_
            refine lv_bipush (v := nI (8)) hx hb d_FA_partsAreEnough_42 (by decide) ?_
            refine fm_cv S (c_FO_lengthOf l dC dI o wa sa la bc ec sz sc hv cI w st ln 8 (by omega)) rfl rfl k_FO_lengthOf q_2_58 ⟨Nat.le_of_ble_eq_true rfl, Nat.le_of_ble_eq_true rfl⟩ (hP.sub [0, 1, 2, 3] rfl) (hK.sub [0] rfl) 0 rfl rfl rfl hl.1 rfl (Nat.le_of_ble_eq_true rfl) ⟨Nat.zero_le _, Nat.zero_le _⟩ d_FA_partsAreEnough_44 ?_
            refine fm_tw (z := nI (fm_WD B 8)) (hl2 8 (by decide) (by decide)) ?_
            refine lv_sipush (v := nI (256)) hx hb d_FA_partsAreEnough_47 (by decide) ?_
            refine lv_icmp_gt (tgt := 57) hx hb d_FA_partsAreEnough_50 (by decide) (fun c0 => ?_) (fun c0 => ?_)
            · have c_50 : 256 < fm_WD B 8 := (nI_ltI (a := 256) (b := fm_WD B 8) (by omega) (by omega)).mp c0
              refine lv_iconst (v := nI (0)) hx hb d_FA_partsAreEnough_57 (by decide) ?_
              exact W.zret (ty := .boolean) hx hb hr (rfl) (fun t ht hW => ⟨_, rfl, fm_bI_0 (by rw [fm_few_t (by omega)]; rfl), ht⟩) (fun q hq => by cases hq) d_FA_partsAreEnough_58
            · have c_50 : ¬ (256 < fm_WD B 8) := fun z => c0 ((nI_ltI (a := 256) (b := fm_WD B 8) (by omega) (by omega)).mpr z)
              refine lv_iconst (v := nI (1)) hx hb d_FA_partsAreEnough_53 (by decide) ?_
              refine lv_goto (tgt := 58) hx hb d_FA_partsAreEnough_54 (by decide) ?_
              exact W.zret (ty := .boolean) hx hb hr (rfl) (fun t ht hW => ⟨_, rfl, fm_bI_1 (by rw [fm_few_f c_6 c_14 c_22 c_30 c_38 c_50]; rfl), ht⟩) (fun q hq => by cases hq) d_FA_partsAreEnough_58
theorem d_FA_lengthsAgree_0 : decode b_FA_lengthsAgree 0 = .ok (.aload_n 0, 1) := by decide +kernel
theorem d_FA_lengthsAgree_1 : decode b_FA_lengthsAgree 1 = .ok (.iconst 0, 1) := by decide +kernel
theorem d_FA_lengthsAgree_2 : decode b_FA_lengthsAgree 2 = .ok (.invokevirtual 53, 3) := by decide +kernel
theorem d_FA_lengthsAgree_5 : decode b_FA_lengthsAgree 5 = .ok (.istore_n 2, 1) := by decide +kernel
theorem d_FA_lengthsAgree_6 : decode b_FA_lengthsAgree 6 = .ok (.bipush 6, 2) := by decide +kernel
theorem d_FA_lengthsAgree_8 : decode b_FA_lengthsAgree 8 = .ok (.istore_n 3, 1) := by decide +kernel
theorem d_FA_lengthsAgree_9 : decode b_FA_lengthsAgree 9 = .ok (.iconst 0, 1) := by decide +kernel
theorem d_FA_lengthsAgree_10 : decode b_FA_lengthsAgree 10 = .ok (.istore 4, 2) := by decide +kernel
theorem d_FA_lengthsAgree_12 : decode b_FA_lengthsAgree 12 = .ok (.iload 4, 2) := by decide +kernel
theorem d_FA_lengthsAgree_14 : decode b_FA_lengthsAgree 14 = .ok (.bipush 10, 2) := by decide +kernel
theorem d_FA_lengthsAgree_16 : decode b_FA_lengthsAgree 16 = .ok (.if_icmp .ge 18, 3) := by decide +kernel
theorem d_FA_lengthsAgree_19 : decode b_FA_lengthsAgree 19 = .ok (.iload_n 3, 1) := by decide +kernel
theorem d_FA_lengthsAgree_20 : decode b_FA_lengthsAgree 20 = .ok (.aload_n 0, 1) := by decide +kernel
theorem d_FA_lengthsAgree_21 : decode b_FA_lengthsAgree 21 = .ok (.iload 4, 2) := by decide +kernel
theorem d_FA_lengthsAgree_23 : decode b_FA_lengthsAgree 23 = .ok (.invokevirtual 57, 3) := by decide +kernel
theorem d_FA_lengthsAgree_26 : decode b_FA_lengthsAgree 26 = .ok (.iadd, 1) := by decide +kernel
theorem d_FA_lengthsAgree_27 : decode b_FA_lengthsAgree 27 = .ok (.istore_n 3, 1) := by decide +kernel
theorem d_FA_lengthsAgree_28 : decode b_FA_lengthsAgree 28 = .ok (.iinc 4 1, 3) := by decide +kernel
theorem d_FA_lengthsAgree_31 : decode b_FA_lengthsAgree 31 = .ok (.goto (-19), 3) := by decide +kernel
theorem d_FA_lengthsAgree_34 : decode b_FA_lengthsAgree 34 = .ok (.iload_n 2, 1) := by decide +kernel
theorem d_FA_lengthsAgree_35 : decode b_FA_lengthsAgree 35 = .ok (.iload_n 3, 1) := by decide +kernel
theorem d_FA_lengthsAgree_36 : decode b_FA_lengthsAgree 36 = .ok (.if_icmp .ne 14, 3) := by decide +kernel
theorem d_FA_lengthsAgree_39 : decode b_FA_lengthsAgree 39 = .ok (.iload_n 1, 1) := by decide +kernel
theorem d_FA_lengthsAgree_40 : decode b_FA_lengthsAgree 40 = .ok (.iconst 4, 1) := by decide +kernel
theorem d_FA_lengthsAgree_41 : decode b_FA_lengthsAgree 41 = .ok (.iload_n 2, 1) := by decide +kernel
theorem d_FA_lengthsAgree_42 : decode b_FA_lengthsAgree 42 = .ok (.imul, 1) := by decide +kernel
theorem d_FA_lengthsAgree_43 : decode b_FA_lengthsAgree 43 = .ok (.if_icmp .ne 7, 3) := by decide +kernel
theorem d_FA_lengthsAgree_46 : decode b_FA_lengthsAgree 46 = .ok (.iconst 1, 1) := by decide +kernel
theorem d_FA_lengthsAgree_47 : decode b_FA_lengthsAgree 47 = .ok (.goto 4, 3) := by decide +kernel
theorem d_FA_lengthsAgree_50 : decode b_FA_lengthsAgree 50 = .ok (.iconst 0, 1) := by decide +kernel
theorem d_FA_lengthsAgree_51 : decode b_FA_lengthsAgree 51 = .ok (.ireturn, 1) := by decide +kernel
set_option maxHeartbeats 4000000 in
set_option maxRecDepth 100000 in
theorem c_FA_lengthsAgree (l : Launch) (dC : Nat → ClassId) (dI : Nat → Nat → Nat) (o : Nat) (wa : Nat) (sa : Nat) (la : Nat) (bc : Int32) (ec : Int32) (sz : Int32) (sc : Int32) (hv : Int32) (cI : ClassId) (w : Nat → Int32) (st : Nat → Int32) (ln : Nat → Int32) (B : Nat → Nat) (n : Nat) (hB : ∀ i, B i < 256) (hl3 : ∀ p, p < 10 → ln p = nI (fm_WD B p)) (h00 : fm_nb w 0 = fm_HF B 0) (hn : n ≤ 8192) : fm_M l (dC, dI) y_FA_lengthsAgree w_FA_lengthsAgree ({ frames := 1, cells := 0, slots := 0, locals := 23 }) [.ref o, .int (nI (n))] [(o, .inr (1, [.ref wa, .ref sa, .ref la, .int (bc), .int (ec), .int (sz), .int (sc), .int (hv)])), (wa, .inl (cI, 2048, .inl (w))), (sa, .inl (cI, 10, .inl (st))), (la, .inl (cI, 10, .inl (ln)))] [(cI, .int)] ((fm_bI (decide (fm_HF B 0 = fm_ST B 10) && decide (n = 4 * fm_HF B 0)))) := by
  refine Met.ofW (cc := b_FA_lengthsAgree) (maxL := 5) (ret := (some .boolean)) (by decide) rfl ?_
  intro pg ev s m args below meth cd s₁ BD hml hv
  obtain ⟨rfl, hP, hK⟩ := hv
  have hx := BD.exec
  have hb := BD.bytes
  have hr := BD.returns
  have hts := atoms_spec (ws := w_FA_lengthsAgree) BD.pre
  have ht : ∀ w ∈ fm_T, w.before _ s = true := fun w h => hts w (List.mem_cons_of_mem _ h)
  have hown : s.vm.findClass R_FA = some m.cls := findClass_of_methodNamed BD.named
  have hlocks := BD.notSynchronized
  have S : CallFix pg m cd b_FA_lengthsAgree 5 s _ w_FA_lengthsAgree R_FA := ⟨hx, hb, hml, hown, hts⟩
  have hl := lv_entry ([.ref o, .int (nI (n))]) (n := 5) (Nat.le_of_ble_eq_true rfl)
  rw [lg_entry_eq]
  generalize (lg_sl ([.ref o, .int (nI (n))]) ++ List.replicate (5 - (lg_sl ([.ref o, .int (nI (n))])).length) Slot.unset).toArray = ls at hl ⊢
  have hl : lv_has ls 5 [(0, .ref o), (1, .int (nI (n)))] := hl
  have hh0 := fm_HF_lt hB 0
  have hs10 := fm_ST_le hB 10
  refine lv_aload_n hx hb d_FA_lengthsAgree_0 rfl (lv_at hl 0 rfl) ?_
  refine lv_iconst (v := nI (0)) hx hb d_FA_lengthsAgree_1 (by decide) ?_
  refine fm_cv S (c_FO_number l dC dI o wa sa la bc ec sz sc hv cI w st ln 0 (by omega)) rfl rfl k_FO_number q_2_54 ⟨Nat.le_of_ble_eq_true rfl, Nat.le_of_ble_eq_true rfl⟩ (hP.sub [0, 1, 2, 3] rfl) (hK.sub [0] rfl) 0 rfl rfl rfl hl.1 rfl (Nat.le_of_ble_eq_true rfl) ⟨Nat.zero_le _, Nat.zero_le _⟩ d_FA_lengthsAgree_2 ?_
  refine fm_tw (z := nI (fm_HF B 0)) (by rw [h00]) ?_
  have f0_2 := fm_nb_lt w 0
  refine lv_istore_n (lv' := [(2, .int (nI (fm_HF B 0))), (0, .ref o), (1, .int (nI (n)))]) hx hb d_FA_lengthsAgree_5 rfl hl (by decide) rfl (fun ls hl => ?_)
  refine lv_bipush (v := nI (6)) hx hb d_FA_lengthsAgree_6 (by decide) ?_
  refine lv_istore_n (lv' := [(3, .int (nI (6))), (2, .int (nI (fm_HF B 0))), (0, .ref o), (1, .int (nI (n)))]) hx hb d_FA_lengthsAgree_8 rfl hl (by decide) rfl (fun ls hl => ?_)
  refine lv_iconst (v := nI (0)) hx hb d_FA_lengthsAgree_9 (by decide) ?_
  refine lv_istore (lv' := [(4, .int (nI (0))), (3, .int (nI (6))), (2, .int (nI (fm_HF B 0))), (0, .ref o), (1, .int (nI (n)))]) hx hb d_FA_lengthsAgree_10 hl (by decide) rfl (fun ls hl => ?_)
  refine fm_loop1 (LV := fun (i : Nat) => [(0, .ref o), (1, .int (nI (n))), (2, .int (nI (fm_HF B 0))), (3, .int (nI (fm_ST B i))), (4, .int (nI (i)))]) (I := fun (i : Nat) => i ≤ 10) (μ := fun (i : Nat) => 10 - i) ?_ 0 (by decide) ls (lv_sub hl [3, 4, 2, 1, 0] rfl)
  intro i hI_12 ih_12 ls hl
  have hl : lv_has ls 5 [(0, .ref o), (1, .int (nI (n))), (2, .int (nI (fm_HF B 0))), (3, .int (nI (fm_ST B i))), (4, .int (nI (i)))] := hl
  refine lv_iload hx hb d_FA_lengthsAgree_12 (lv_at hl 4 rfl) ?_
  refine lv_bipush (v := nI (10)) hx hb d_FA_lengthsAgree_14 (by decide) ?_
  refine lv_icmp_ge (tgt := 34) hx hb d_FA_lengthsAgree_16 (by decide) (fun c0 => ?_) (fun c0 => ?_)
  · have c_16 : 10 ≤ i := (nI_leI (a := 10) (b := i) (by omega) (by omega)).mp c0
    obtain rfl : i = 10 := by omega
    refine lv_iload_n hx hb d_FA_lengthsAgree_34 rfl (lv_at hl 2 rfl) ?_
    refine lv_iload_n hx hb d_FA_lengthsAgree_35 rfl (lv_at hl 3 rfl) ?_
    refine lv_icmp_ne (tgt := 50) hx hb d_FA_lengthsAgree_36 (by decide) (fun c0 => ?_) (fun c0 => ?_)
    · have c_36 : ¬ (fm_HF B 0 = fm_ST B 10) := fun z => c0 ((nI_eq (a := fm_HF B 0) (b := fm_ST B 10) (by omega) (by omega)).mpr z)
      refine lv_iconst (v := nI (0)) hx hb d_FA_lengthsAgree_50 (by decide) ?_
      exact W.zret (ty := .boolean) hx hb hr (rfl) (fun t ht hW => ⟨_, rfl, by first | exact fm_bI_0 (by rw [decide_eq_false c_36]; rfl) | exact fm_bI_0 (by rw [decide_eq_false c_43, Bool.and_false]), ht⟩) (fun q hq => by cases hq) d_FA_lengthsAgree_51
    · have c_36 : fm_HF B 0 = fm_ST B 10 := (nI_eq (a := fm_HF B 0) (b := fm_ST B 10) (by omega) (by omega)).mp c0
      refine lv_iload_n hx hb d_FA_lengthsAgree_39 rfl (lv_at hl 1 rfl) ?_
      refine lv_iconst (v := nI (4)) hx hb d_FA_lengthsAgree_40 (by decide) ?_
      refine lv_iload_n hx hb d_FA_lengthsAgree_41 rfl (lv_at hl 2 rfl) ?_
      refine lv_imul hx hb d_FA_lengthsAgree_42 ?_
      refine fm_tw (z := nI (4 * (fm_HF B 0))) (pk_mul _ _) ?_
      refine lv_icmp_ne (tgt := 50) hx hb d_FA_lengthsAgree_43 (by decide) (fun c0 => ?_) (fun c0 => ?_)
      · have c_43 : ¬ (n = 4 * (fm_HF B 0)) := fun z => c0 ((nI_eq (a := n) (b := 4 * (fm_HF B 0)) (by omega) (by omega)).mpr z)
        refine lv_iconst (v := nI (0)) hx hb d_FA_lengthsAgree_50 (by decide) ?_
        exact W.zret (ty := .boolean) hx hb hr (rfl) (fun t ht hW => ⟨_, rfl, by first | exact fm_bI_0 (by rw [decide_eq_false c_36]; rfl) | exact fm_bI_0 (by rw [decide_eq_false c_43, Bool.and_false]), ht⟩) (fun q hq => by cases hq) d_FA_lengthsAgree_51
      · have c_43 : n = 4 * (fm_HF B 0) := (nI_eq (a := n) (b := 4 * (fm_HF B 0)) (by omega) (by omega)).mp c0
        refine lv_iconst (v := nI (1)) hx hb d_FA_lengthsAgree_46 (by decide) ?_
        refine lv_goto (tgt := 51) hx hb d_FA_lengthsAgree_47 (by decide) ?_
        exact W.zret (ty := .boolean) hx hb hr (rfl) (fun t ht hW => ⟨_, rfl, fm_bI_1 (by rw [decide_eq_true c_36, decide_eq_true c_43]; rfl), ht⟩) (fun q hq => by cases hq) d_FA_lengthsAgree_51
  · have c_16 : ¬ (10 ≤ i) := fun z => c0 ((nI_leI (a := 10) (b := i) (by omega) (by omega)).mpr z)
    refine lv_iload_n hx hb d_FA_lengthsAgree_19 rfl (lv_at hl 3 rfl) ?_
    refine lv_aload_n hx hb d_FA_lengthsAgree_20 rfl (lv_at hl 0 rfl) ?_
    refine lv_iload hx hb d_FA_lengthsAgree_21 (lv_at hl 4 rfl) ?_
    refine fm_cv S (c_FO_lengthOf l dC dI o wa sa la bc ec sz sc hv cI w st ln i (by omega)) rfl rfl k_FO_lengthOf q_2_58 ⟨Nat.le_of_ble_eq_true rfl, Nat.le_of_ble_eq_true rfl⟩ (hP.sub [0, 1, 2, 3] rfl) (hK.sub [0] rfl) 0 rfl rfl rfl hl.1 rfl (Nat.le_of_ble_eq_true rfl) ⟨Nat.zero_le _, Nat.zero_le _⟩ d_FA_lengthsAgree_23 ?_
    refine fm_tw (z := nI (fm_WD B i)) (hl3 i (by omega)) ?_
    refine lv_iadd hx hb d_FA_lengthsAgree_26 ?_
    refine fm_tw (z := nI (fm_ST B i + fm_WD B i)) (nI_add _ _) ?_
    refine lv_istore_n (lv' := [(3, .int (nI (fm_ST B i + fm_WD B i))), (0, .ref o), (1, .int (nI (n))), (2, .int (nI (fm_HF B 0))), (4, .int (nI (i)))]) hx hb d_FA_lengthsAgree_27 rfl hl (by decide) rfl (fun ls hl => ?_)
    refine lv_iinc (v := nI (i + 1)) (lv' := [(4, .int (nI (i + 1))), (3, .int (nI (fm_ST B i + fm_WD B i))), (0, .ref o), (1, .int (nI (n))), (2, .int (nI (fm_HF B 0)))]) hx hb d_FA_lengthsAgree_28 hl (k := 4) rfl (nI_1 _) (by decide) rfl (fun ls hl => ?_)
    refine lv_goto (tgt := 12) hx hb d_FA_lengthsAgree_31 (by decide) ?_
    exact ih_12 (i + 1) ls (by omega) (by omega) (lv_sub hl [2, 3, 4, 1, 0] rfl)
theorem d_FA_firstOfNumbers_0 : decode b_FA_firstOfNumbers 0 = .ok (.iload_n 1, 1) := by decide +kernel
theorem d_FA_firstOfNumbers_1 : decode b_FA_firstOfNumbers 1 = .ok (.bipush 24, 2) := by decide +kernel
theorem d_FA_firstOfNumbers_3 : decode b_FA_firstOfNumbers 3 = .ok (.if_icmp .lt 10, 3) := by decide +kernel
theorem d_FA_firstOfNumbers_6 : decode b_FA_firstOfNumbers 6 = .ok (.aload_n 0, 1) := by decide +kernel
theorem d_FA_firstOfNumbers_7 : decode b_FA_firstOfNumbers 7 = .ok (.invokestatic 9, 3) := by decide +kernel
theorem d_FA_firstOfNumbers_10 : decode b_FA_firstOfNumbers 10 = .ok (.ifCond .ne 5, 3) := by decide +kernel
theorem d_FA_firstOfNumbers_13 : decode b_FA_firstOfNumbers 13 = .ok (.iconst 1, 1) := by decide +kernel
theorem d_FA_firstOfNumbers_14 : decode b_FA_firstOfNumbers 14 = .ok (.ireturn, 1) := by decide +kernel
theorem d_FA_firstOfNumbers_15 : decode b_FA_firstOfNumbers 15 = .ok (.aload_n 0, 1) := by decide +kernel
theorem d_FA_firstOfNumbers_16 : decode b_FA_firstOfNumbers 16 = .ok (.getfield 15, 3) := by decide +kernel
theorem d_FA_firstOfNumbers_19 : decode b_FA_firstOfNumbers 19 = .ok (.aload_n 0, 1) := by decide +kernel
theorem d_FA_firstOfNumbers_20 : decode b_FA_firstOfNumbers 20 = .ok (.getfield 19, 3) := by decide +kernel
theorem d_FA_firstOfNumbers_23 : decode b_FA_firstOfNumbers 23 = .ok (.iconst 1, 1) := by decide +kernel
theorem d_FA_firstOfNumbers_24 : decode b_FA_firstOfNumbers 24 = .ok (.iadd, 1) := by decide +kernel
theorem d_FA_firstOfNumbers_25 : decode b_FA_firstOfNumbers 25 = .ok (.if_icmp .gt 13, 3) := by decide +kernel
theorem d_FA_firstOfNumbers_28 : decode b_FA_firstOfNumbers 28 = .ok (.aload_n 0, 1) := by decide +kernel
theorem d_FA_firstOfNumbers_29 : decode b_FA_firstOfNumbers 29 = .ok (.getfield 19, 3) := by decide +kernel
theorem d_FA_firstOfNumbers_32 : decode b_FA_firstOfNumbers 32 = .ok (.sipush 255, 3) := by decide +kernel
theorem d_FA_firstOfNumbers_35 : decode b_FA_firstOfNumbers 35 = .ok (.if_icmp .le 5, 3) := by decide +kernel
theorem d_FA_firstOfNumbers_38 : decode b_FA_firstOfNumbers 38 = .ok (.iconst 2, 1) := by decide +kernel
theorem d_FA_firstOfNumbers_39 : decode b_FA_firstOfNumbers 39 = .ok (.ireturn, 1) := by decide +kernel
theorem d_FA_firstOfNumbers_40 : decode b_FA_firstOfNumbers 40 = .ok (.aload_n 0, 1) := by decide +kernel
theorem d_FA_firstOfNumbers_41 : decode b_FA_firstOfNumbers 41 = .ok (.invokestatic 22, 3) := by decide +kernel
theorem d_FA_firstOfNumbers_44 : decode b_FA_firstOfNumbers 44 = .ok (.ifCond .ne 5, 3) := by decide +kernel
theorem d_FA_firstOfNumbers_47 : decode b_FA_firstOfNumbers 47 = .ok (.iconst 3, 1) := by decide +kernel
theorem d_FA_firstOfNumbers_48 : decode b_FA_firstOfNumbers 48 = .ok (.ireturn, 1) := by decide +kernel
theorem d_FA_firstOfNumbers_49 : decode b_FA_firstOfNumbers 49 = .ok (.aload_n 0, 1) := by decide +kernel
theorem d_FA_firstOfNumbers_50 : decode b_FA_firstOfNumbers 50 = .ok (.iload_n 1, 1) := by decide +kernel
theorem d_FA_firstOfNumbers_51 : decode b_FA_firstOfNumbers 51 = .ok (.invokestatic 25, 3) := by decide +kernel
theorem d_FA_firstOfNumbers_54 : decode b_FA_firstOfNumbers 54 = .ok (.ifCond .eq 7, 3) := by decide +kernel
theorem d_FA_firstOfNumbers_57 : decode b_FA_firstOfNumbers 57 = .ok (.iconst 0, 1) := by decide +kernel
theorem d_FA_firstOfNumbers_58 : decode b_FA_firstOfNumbers 58 = .ok (.goto 4, 3) := by decide +kernel
theorem d_FA_firstOfNumbers_61 : decode b_FA_firstOfNumbers 61 = .ok (.iconst 4, 1) := by decide +kernel
theorem d_FA_firstOfNumbers_62 : decode b_FA_firstOfNumbers 62 = .ok (.ireturn, 1) := by decide +kernel
set_option maxHeartbeats 4000000 in
set_option maxRecDepth 100000 in
theorem c_FA_firstOfNumbers (l : Launch) (dC : Nat → ClassId) (dI : Nat → Nat → Nat) (o : Nat) (wa : Nat) (sa : Nat) (la : Nat) (sz : Int32) (sc : Int32) (hv : Int32) (cI : ClassId) (w : Nat → Int32) (st : Nat → Int32) (ln : Nat → Int32) (B : Nat → Nat) (n : Nat) (hB : ∀ i, B i < 256) (hn : n ≤ 8192) (hnb : 24 ≤ n → ∀ i, i < 12 → fm_nb w i = fm_HF B i) (hlr : 24 ≤ n → ∀ p, p < 10 → p ≠ 1 → ln p = nI (fm_WD B p)) (hl1 : 24 ≤ n → fm_HF B 2 ≤ fm_HF B 3 + 1 → ln 1 = nI (fm_WD B 1)) : fm_M l (dC, dI) y_FA_firstOfNumbers w_FA_firstOfNumbers ({ frames := 2, cells := 0, slots := 0, locals := 47 }) [.ref o, .int (nI (n))] [(o, .inr (1, [.ref wa, .ref sa, .ref la, .int (nI (fm_nb w 2)), .int (nI (fm_nb w 3)), .int (sz), .int (sc), .int (hv)])), (wa, .inl (cI, 2048, .inl (w))), (sa, .inl (cI, 10, .inl (st))), (la, .inl (cI, 10, .inl (ln)))] [(cI, .int)] (nI (fm_f4 B n)) := by
  refine Met.ofW (cc := b_FA_firstOfNumbers) (maxL := 2) (ret := (some .int)) (by decide) rfl ?_
  intro pg ev s m args below meth cd s₁ BD hml hv
  obtain ⟨rfl, hP, hK⟩ := hv
  have hx := BD.exec
  have hb := BD.bytes
  have hr := BD.returns
  have hts := atoms_spec (ws := w_FA_firstOfNumbers) BD.pre
  have ht : ∀ w ∈ fm_T, w.before _ s = true := fun w h => hts w (List.mem_cons_of_mem _ h)
  have hown : s.vm.findClass R_FA = some m.cls := findClass_of_methodNamed BD.named
  have hlocks := BD.notSynchronized
  have S : CallFix pg m cd b_FA_firstOfNumbers 2 s _ w_FA_firstOfNumbers R_FA := ⟨hx, hb, hml, hown, hts⟩
  have hl := lv_entry ([.ref o, .int (nI (n))]) (n := 2) (Nat.le_of_ble_eq_true rfl)
  rw [lg_entry_eq]
  generalize (lg_sl ([.ref o, .int (nI (n))]) ++ List.replicate (2 - (lg_sl ([.ref o, .int (nI (n))])).length) Slot.unset).toArray = ls at hl ⊢
  have hl : lv_has ls 2 [(0, .ref o), (1, .int (nI (n)))] := hl
  have hb2 := fm_nb_lt w 2
  have hb3 := fm_nb_lt w 3
  refine lv_iload_n hx hb d_FA_firstOfNumbers_0 rfl (lv_at hl 1 rfl) ?_
  refine lv_bipush (v := nI (24)) hx hb d_FA_firstOfNumbers_1 (by decide) ?_
  refine lv_icmp_lt (tgt := 13) hx hb d_FA_firstOfNumbers_3 (by decide) (fun c0 => ?_) (fun c0 => ?_)
  · have c_3 : n < 24 := (nI_ltI (a := n) (b := 24) (by omega) (by omega)).mp c0
    refine lv_iconst (v := nI (1)) hx hb d_FA_firstOfNumbers_13 (by decide) ?_
    exact W.iret hx hb hr (fun t ht hW => ⟨_, rfl, by first | (rw [fm_f4, if_pos (by rw [fm_small, decide_eq_false (by omega)]; rfl)]; done) | (rw [fm_f4, if_pos (by rw [hsm]; exact c_10)]; done), ht⟩) (fun q hq => by cases hq) d_FA_firstOfNumbers_14
  · have c_3 : ¬ (n < 24) := fun z => c0 ((nI_ltI (a := n) (b := 24) (by omega) (by omega)).mpr z)
    have h24 : 24 ≤ n := by omega
    have hnb2 := hnb h24
    have e2 := hnb2 2 (by decide)
    have e3 := hnb2 3 (by decide)
    have hsm : fm_small B n = fm_all 12 (fm_smw w) := by
      rw [fm_small, decide_eq_true h24, Bool.true_and]
      exact fm_all_congr (fun k hk => by unfold fm_sm fm_smw; rw [hnb2 k hk])
    refine lv_aload_n hx hb d_FA_firstOfNumbers_6 rfl (lv_at hl 0 rfl) ?_
    refine fm_cs S (c_FA_numbersAreSmall l dC dI o wa sa la (nI (fm_nb w 2)) (nI (fm_nb w 3)) sz sc hv cI w st ln ) rfl rfl k_FA_numbersAreSmall q_2_51 ⟨Nat.le_of_ble_eq_true rfl, Nat.le_of_ble_eq_true rfl⟩ (hP.sub [0, 1, 2, 3] rfl) (hK.sub [0] rfl) rfl hl.1 rfl (Nat.le_of_ble_eq_true rfl) ⟨Nat.zero_le _, Nat.zero_le _⟩ d_FA_firstOfNumbers_7 ?_
    refine lv_if_ne (tgt := 15) hx hb d_FA_firstOfNumbers_10 (by decide) (fun c0 => ?_) (fun c0 => ?_)
    · have c_10 : (fm_all 12 (fm_smw w)) = true := fm_bI_t c0
      refine lv_aload_n hx hb d_FA_firstOfNumbers_15 rfl (lv_at hl 0 rfl) ?_
      refine va_get (D := (dC, dI)) (ci := 1) (v := .int (nI (fm_nb w 2))) (C := R_FO) (T := F_FO) (N := 8) hx hb ht i_FO hown hK hP 0 rfl rfl 3 (by decide) (ht _ q_1_72) (fun _ h9 => h9) rfl d_FA_firstOfNumbers_16 ?_
      refine lv_aload_n hx hb d_FA_firstOfNumbers_19 rfl (lv_at hl 0 rfl) ?_
      refine va_get (D := (dC, dI)) (ci := 1) (v := .int (nI (fm_nb w 3))) (C := R_FO) (T := F_FO) (N := 8) hx hb ht i_FO hown hK hP 0 rfl rfl 4 (by decide) (ht _ q_1_75) (fun _ h9 => h9) rfl d_FA_firstOfNumbers_20 ?_
      refine lv_iconst (v := nI (1)) hx hb d_FA_firstOfNumbers_23 (by decide) ?_
      refine lv_iadd hx hb d_FA_firstOfNumbers_24 ?_
      refine fm_tw (z := nI (fm_nb w 3 + 1)) (nI_add _ _) ?_
      refine lv_icmp_gt (tgt := 38) hx hb d_FA_firstOfNumbers_25 (by decide) (fun c0 => ?_) (fun c0 => ?_)
      · have c_25 : fm_nb w 3 + 1 < fm_nb w 2 := (nI_ltI (a := fm_nb w 3 + 1) (b := fm_nb w 2) (by omega) (by omega)).mp c0
        refine lv_iconst (v := nI (2)) hx hb d_FA_firstOfNumbers_38 (by decide) ?_
        exact W.iret hx hb hr (fun t ht hW => ⟨_, rfl, by rw [fm_f4, if_neg (by rw [hsm, c_10]; decide), if_pos (by omega)], ht⟩) (fun q hq => by cases hq) d_FA_firstOfNumbers_39
      · have c_25 : ¬ (fm_nb w 3 + 1 < fm_nb w 2) := fun z => c0 ((nI_ltI (a := fm_nb w 3 + 1) (b := fm_nb w 2) (by omega) (by omega)).mpr z)
        refine lv_aload_n hx hb d_FA_firstOfNumbers_28 rfl (lv_at hl 0 rfl) ?_
        refine va_get (D := (dC, dI)) (ci := 1) (v := .int (nI (fm_nb w 3))) (C := R_FO) (T := F_FO) (N := 8) hx hb ht i_FO hown hK hP 0 rfl rfl 4 (by decide) (ht _ q_1_75) (fun _ h9 => h9) rfl d_FA_firstOfNumbers_29 ?_
        refine lv_sipush (v := nI (255)) hx hb d_FA_firstOfNumbers_32 (by decide) ?_
        refine lv_icmp_le (tgt := 40) hx hb d_FA_firstOfNumbers_35 (by decide) (fun c0 => ?_) (fun c0 => ?_)
        · have c_35 : fm_nb w 3 ≤ 255 := (nI_leI (a := fm_nb w 3) (b := 255) (by omega) (by omega)).mp c0
          refine lv_aload_n hx hb d_FA_firstOfNumbers_40 rfl (lv_at hl 0 rfl) ?_
          refine fm_cs S (c_FA_partsAreEnough l dC dI o wa sa la (nI (fm_nb w 2)) (nI (fm_nb w 3)) sz sc hv cI w st ln B (hB) (hlr h24)) rfl rfl k_FA_partsAreEnough q_2_55 ⟨Nat.le_of_ble_eq_true rfl, Nat.le_of_ble_eq_true rfl⟩ (hP.sub [0, 1, 2, 3] rfl) (hK.sub [0] rfl) rfl hl.1 rfl (Nat.le_of_ble_eq_true rfl) ⟨Nat.zero_le _, Nat.zero_le _⟩ d_FA_firstOfNumbers_41 ?_
          refine lv_if_ne (tgt := 49) hx hb d_FA_firstOfNumbers_44 (by decide) (fun c0 => ?_) (fun c0 => ?_)
          · have c_44 : (!fm_few B) = true := fm_bI_t c0
            refine lv_aload_n hx hb d_FA_firstOfNumbers_49 rfl (lv_at hl 0 rfl) ?_
            refine lv_iload_n hx hb d_FA_firstOfNumbers_50 rfl (lv_at hl 1 rfl) ?_
            refine fm_cs S (c_FA_lengthsAgree l dC dI o wa sa la (nI (fm_nb w 2)) (nI (fm_nb w 3)) sz sc hv cI w st ln B n (hB) (fun p hp => if e : p = 1 then by rw [e]; exact hl1 h24 (by omega) else hlr h24 p hp e) (hnb2 0 (by decide)) (by omega)) rfl rfl k_FA_lengthsAgree q_2_62 ⟨Nat.le_of_ble_eq_true rfl, Nat.le_of_ble_eq_true rfl⟩ (hP.sub [0, 1, 2, 3] rfl) (hK.sub [0] rfl) rfl hl.1 rfl (Nat.le_of_ble_eq_true rfl) ⟨Nat.zero_le _, Nat.zero_le _⟩ d_FA_firstOfNumbers_51 ?_
            refine lv_if_eq (tgt := 61) hx hb d_FA_firstOfNumbers_54 (by decide) (fun c0 => ?_) (fun c0 => ?_)
            · have c_54 : (decide (fm_HF B 0 = fm_ST B 10) && decide (n = 4 * fm_HF B 0)) = false := fm_bI_f c0
              refine lv_iconst (v := nI (4)) hx hb d_FA_firstOfNumbers_61 (by decide) ?_
              exact W.iret hx hb hr (fun t ht hW => ⟨_, rfl, by rw [fm_f4, if_neg (by rw [hsm, c_10]; decide), if_neg (by omega), if_neg (by intro z; rw [z] at c_44; cases c_44), if_pos (by have h9 := Bool.and_eq_false_iff.mp c_54; simp only [decide_eq_false_iff_not] at h9; omega)], ht⟩) (fun q hq => by cases hq) d_FA_firstOfNumbers_62
            · have c_54 : (decide (fm_HF B 0 = fm_ST B 10) && decide (n = 4 * fm_HF B 0)) = true := fm_bI_t c0
              refine lv_iconst (v := nI (0)) hx hb d_FA_firstOfNumbers_57 (by decide) ?_
              refine lv_goto (tgt := 62) hx hb d_FA_firstOfNumbers_58 (by decide) ?_
              exact W.iret hx hb hr (fun t ht hW => ⟨_, rfl, by rw [fm_f4, if_neg (by rw [hsm, c_10]; decide), if_neg (by omega), if_neg (by intro z; rw [z] at c_44; cases c_44), if_neg (by have h9 := c_54; simp only [Bool.and_eq_true, decide_eq_true_eq] at h9; omega)], ht⟩) (fun q hq => by cases hq) d_FA_firstOfNumbers_62
          · have c_44 : (!fm_few B) = false := fm_bI_f c0
            refine lv_iconst (v := nI (3)) hx hb d_FA_firstOfNumbers_47 (by decide) ?_
            exact W.iret hx hb hr (fun t ht hW => ⟨_, rfl, by rw [fm_f4, if_neg (by rw [hsm, c_10]; decide), if_neg (by omega), if_pos (by simpa using c_44)], ht⟩) (fun q hq => by cases hq) d_FA_firstOfNumbers_48
        · have c_35 : ¬ (fm_nb w 3 ≤ 255) := fun z => c0 ((nI_leI (a := fm_nb w 3) (b := 255) (by omega) (by omega)).mpr z)
          refine lv_iconst (v := nI (2)) hx hb d_FA_firstOfNumbers_38 (by decide) ?_
          exact W.iret hx hb hr (fun t ht hW => ⟨_, rfl, by rw [fm_f4, if_neg (by rw [hsm, c_10]; decide), if_pos (by omega)], ht⟩) (fun q hq => by cases hq) d_FA_firstOfNumbers_39
    · have c_10 : (fm_all 12 (fm_smw w)) = false := fm_bI_f c0
      refine lv_iconst (v := nI (1)) hx hb d_FA_firstOfNumbers_13 (by decide) ?_
      exact W.iret hx hb hr (fun t ht hW => ⟨_, rfl, by first | (rw [fm_f4, if_pos (by rw [fm_small, decide_eq_false (by omega)]; rfl)]; done) | (rw [fm_f4, if_pos (by rw [hsm]; exact c_10)]; done), ht⟩) (fun q hq => by cases hq) d_FA_firstOfNumbers_14
theorem d_FA_measuresHavePlaces_0 : decode b_FA_measuresHavePlaces 0 = .ok (.iconst 0, 1) := by decide +kernel
theorem d_FA_measuresHavePlaces_1 : decode b_FA_measuresHavePlaces 1 = .ok (.istore_n 1, 1) := by decide +kernel
theorem d_FA_measuresHavePlaces_2 : decode b_FA_measuresHavePlaces 2 = .ok (.iload_n 1, 1) := by decide +kernel
theorem d_FA_measuresHavePlaces_3 : decode b_FA_measuresHavePlaces 3 = .ok (.aload_n 0, 1) := by decide +kernel
theorem d_FA_measuresHavePlaces_4 : decode b_FA_measuresHavePlaces 4 = .ok (.iconst 1, 1) := by decide +kernel
theorem d_FA_measuresHavePlaces_5 : decode b_FA_measuresHavePlaces 5 = .ok (.invokevirtual 57, 3) := by decide +kernel
theorem d_FA_measuresHavePlaces_8 : decode b_FA_measuresHavePlaces 8 = .ok (.if_icmp .ge 66, 3) := by decide +kernel
theorem d_FA_measuresHavePlaces_11 : decode b_FA_measuresHavePlaces 11 = .ok (.aload_n 0, 1) := by decide +kernel
theorem d_FA_measuresHavePlaces_12 : decode b_FA_measuresHavePlaces 12 = .ok (.iconst 1, 1) := by decide +kernel
theorem d_FA_measuresHavePlaces_13 : decode b_FA_measuresHavePlaces 13 = .ok (.iload_n 1, 1) := by decide +kernel
theorem d_FA_measuresHavePlaces_14 : decode b_FA_measuresHavePlaces 14 = .ok (.invokevirtual 29, 3) := by decide +kernel
theorem d_FA_measuresHavePlaces_17 : decode b_FA_measuresHavePlaces 17 = .ok (.istore_n 2, 1) := by decide +kernel
theorem d_FA_measuresHavePlaces_18 : decode b_FA_measuresHavePlaces 18 = .ok (.iload_n 2, 1) := by decide +kernel
theorem d_FA_measuresHavePlaces_19 : decode b_FA_measuresHavePlaces 19 = .ok (.invokestatic 60, 3) := by decide +kernel
theorem d_FA_measuresHavePlaces_22 : decode b_FA_measuresHavePlaces 22 = .ok (.aload_n 0, 1) := by decide +kernel
theorem d_FA_measuresHavePlaces_23 : decode b_FA_measuresHavePlaces 23 = .ok (.iconst 2, 1) := by decide +kernel
theorem d_FA_measuresHavePlaces_24 : decode b_FA_measuresHavePlaces 24 = .ok (.invokevirtual 57, 3) := by decide +kernel
theorem d_FA_measuresHavePlaces_27 : decode b_FA_measuresHavePlaces 27 = .ok (.if_icmp .ge 39, 3) := by decide +kernel
theorem d_FA_measuresHavePlaces_30 : decode b_FA_measuresHavePlaces 30 = .ok (.iload_n 2, 1) := by decide +kernel
theorem d_FA_measuresHavePlaces_31 : decode b_FA_measuresHavePlaces 31 = .ok (.invokestatic 63, 3) := by decide +kernel
theorem d_FA_measuresHavePlaces_34 : decode b_FA_measuresHavePlaces 34 = .ok (.aload_n 0, 1) := by decide +kernel
theorem d_FA_measuresHavePlaces_35 : decode b_FA_measuresHavePlaces 35 = .ok (.iconst 3, 1) := by decide +kernel
theorem d_FA_measuresHavePlaces_36 : decode b_FA_measuresHavePlaces 36 = .ok (.invokevirtual 57, 3) := by decide +kernel
theorem d_FA_measuresHavePlaces_39 : decode b_FA_measuresHavePlaces 39 = .ok (.if_icmp .ge 27, 3) := by decide +kernel
theorem d_FA_measuresHavePlaces_42 : decode b_FA_measuresHavePlaces 42 = .ok (.iload_n 2, 1) := by decide +kernel
theorem d_FA_measuresHavePlaces_43 : decode b_FA_measuresHavePlaces 43 = .ok (.invokestatic 66, 3) := by decide +kernel
theorem d_FA_measuresHavePlaces_46 : decode b_FA_measuresHavePlaces 46 = .ok (.aload_n 0, 1) := by decide +kernel
theorem d_FA_measuresHavePlaces_47 : decode b_FA_measuresHavePlaces 47 = .ok (.iconst 4, 1) := by decide +kernel
theorem d_FA_measuresHavePlaces_48 : decode b_FA_measuresHavePlaces 48 = .ok (.invokevirtual 57, 3) := by decide +kernel
theorem d_FA_measuresHavePlaces_51 : decode b_FA_measuresHavePlaces 51 = .ok (.if_icmp .ge 15, 3) := by decide +kernel
theorem d_FA_measuresHavePlaces_54 : decode b_FA_measuresHavePlaces 54 = .ok (.iload_n 2, 1) := by decide +kernel
theorem d_FA_measuresHavePlaces_55 : decode b_FA_measuresHavePlaces 55 = .ok (.invokestatic 69, 3) := by decide +kernel
theorem d_FA_measuresHavePlaces_58 : decode b_FA_measuresHavePlaces 58 = .ok (.aload_n 0, 1) := by decide +kernel
theorem d_FA_measuresHavePlaces_59 : decode b_FA_measuresHavePlaces 59 = .ok (.iconst 5, 1) := by decide +kernel
theorem d_FA_measuresHavePlaces_60 : decode b_FA_measuresHavePlaces 60 = .ok (.invokevirtual 57, 3) := by decide +kernel
theorem d_FA_measuresHavePlaces_63 : decode b_FA_measuresHavePlaces 63 = .ok (.if_icmp .lt 5, 3) := by decide +kernel
theorem d_FA_measuresHavePlaces_66 : decode b_FA_measuresHavePlaces 66 = .ok (.iconst 0, 1) := by decide +kernel
theorem d_FA_measuresHavePlaces_67 : decode b_FA_measuresHavePlaces 67 = .ok (.ireturn, 1) := by decide +kernel
theorem d_FA_measuresHavePlaces_68 : decode b_FA_measuresHavePlaces 68 = .ok (.iinc 1 1, 3) := by decide +kernel
theorem d_FA_measuresHavePlaces_71 : decode b_FA_measuresHavePlaces 71 = .ok (.goto (-69), 3) := by decide +kernel
theorem d_FA_measuresHavePlaces_74 : decode b_FA_measuresHavePlaces 74 = .ok (.iconst 1, 1) := by decide +kernel
theorem d_FA_measuresHavePlaces_75 : decode b_FA_measuresHavePlaces 75 = .ok (.ireturn, 1) := by decide +kernel
set_option maxHeartbeats 4000000 in
set_option maxRecDepth 100000 in
theorem c_FA_measuresHavePlaces (l : Launch) (dC : Nat → ClassId) (dI : Nat → Nat → Nat) (o : Nat) (wa : Nat) (sa : Nat) (la : Nat) (sz : Int32) (sc : Int32) (hv : Int32) (cI : ClassId) (B : Nat → Nat) (w : Nat → Int32) (st : Nat → Int32) (ln : Nat → Int32) (hF : fm_FO B w st ln) : fm_M l (dC, dI) y_FA_measuresHavePlaces w_FA_measuresHavePlaces ({ frames := 1, cells := 0, slots := 0, locals := 23 }) [.ref o] [(o, .inr (1, [.ref wa, .ref sa, .ref la, .int (nI (fm_HF B 2)), .int (nI (fm_HF B 3)), .int (sz), .int (sc), .int (hv)])), (wa, .inl (cI, 2048, .inl (w))), (sa, .inl (cI, 10, .inl (st))), (la, .inl (cI, 10, .inl (ln)))] [(cI, .int)] ((fm_bI (fm_all (fm_WD B 1) (fm_size1 B)))) := by
  refine Met.ofW (cc := b_FA_measuresHavePlaces) (maxL := 3) (ret := (some .boolean)) (by decide) rfl ?_
  intro pg ev s m args below meth cd s₁ BD hml hv
  obtain ⟨rfl, hP, hK⟩ := hv
  have hx := BD.exec
  have hb := BD.bytes
  have hr := BD.returns
  have hts := atoms_spec (ws := w_FA_measuresHavePlaces) BD.pre
  have ht : ∀ w ∈ fm_T, w.before _ s = true := fun w h => hts w (List.mem_cons_of_mem _ h)
  have hown : s.vm.findClass R_FA = some m.cls := findClass_of_methodNamed BD.named
  have hlocks := BD.notSynchronized
  have S : CallFix pg m cd b_FA_measuresHavePlaces 3 s _ w_FA_measuresHavePlaces R_FA := ⟨hx, hb, hml, hown, hts⟩
  have hl := lv_entry ([.ref o]) (n := 3) (Nat.le_of_ble_eq_true rfl)
  rw [lg_entry_eq]
  generalize (lg_sl ([.ref o]) ++ List.replicate (3 - (lg_sl ([.ref o])).length) Slot.unset).toArray = ls at hl ⊢
  have hl : lv_has ls 3 [(0, .ref o)] := hl
  have hB : ∀ i, B i < 256 := hF.1.1
  obtain ⟨hL, hFw, hFs, hFl⟩ := id hF
  obtain ⟨-, hq, h3, h10⟩ := id hL
  have hw1 := fm_WD_le hB 1
  refine lv_iconst (v := nI (0)) hx hb d_FA_measuresHavePlaces_0 (by decide) ?_
  refine lv_istore_n (lv' := [(1, .int (nI (0))), (0, .ref o)]) hx hb d_FA_measuresHavePlaces_1 rfl hl (by decide) rfl (fun ls hl => ?_)
  refine fm_loop1 (LV := fun (i : Nat) => [(0, .ref o), (1, .int (nI (i)))]) (I := fun (i : Nat) => i ≤ fm_WD B 1 ∧ fm_all i (fm_size1 B) = true) (μ := fun (i : Nat) => fm_WD B 1 - i) ?_ 0 (⟨Nat.zero_le _, rfl⟩) ls (lv_sub hl [1, 0] rfl)
  intro i hI_2 ih_2 ls hl
  have hl : lv_has ls 3 [(0, .ref o), (1, .int (nI (i)))] := hl
  obtain ⟨hi, hal⟩ := hI_2
  refine lv_iload_n hx hb d_FA_measuresHavePlaces_2 rfl (lv_at hl 1 rfl) ?_
  refine lv_aload_n hx hb d_FA_measuresHavePlaces_3 rfl (lv_at hl 0 rfl) ?_
  refine lv_iconst (v := nI (1)) hx hb d_FA_measuresHavePlaces_4 (by decide) ?_
  refine fm_cv S (c_FO_lengthOfN l dC dI o wa sa la sz sc hv cI B w st ln 1 (hF) (by omega)) rfl rfl k_FO_lengthOf q_2_58 ⟨Nat.le_of_ble_eq_true rfl, Nat.le_of_ble_eq_true rfl⟩ (hP.sub [0, 1, 2, 3] rfl) (hK.sub [0] rfl) 0 rfl rfl rfl hl.1 rfl (Nat.le_of_ble_eq_true rfl) ⟨Nat.zero_le _, Nat.zero_le _⟩ d_FA_measuresHavePlaces_5 ?_
  have f0_5 := fm_WD_le hB 1
  refine lv_icmp_ge (tgt := 74) hx hb d_FA_measuresHavePlaces_8 (by decide) (fun c0 => ?_) (fun c0 => ?_)
  · have c_8 : fm_WD B 1 ≤ i := (nI_leI (a := fm_WD B 1) (b := i) (by omega) (by omega)).mp c0
    refine lv_iconst (v := nI (1)) hx hb d_FA_measuresHavePlaces_74 (by decide) ?_
    exact W.zret (ty := .boolean) hx hb hr (rfl) (fun t ht hW => ⟨_, rfl, fm_bI_1 (by rw [← hal, show i = fm_WD B 1 by omega]), ht⟩) (fun q hq => by cases hq) d_FA_measuresHavePlaces_75
  · have c_8 : ¬ (fm_WD B 1 ≤ i) := fun z => c0 ((nI_leI (a := fm_WD B 1) (b := i) (by omega) (by omega)).mpr z)
    refine lv_aload_n hx hb d_FA_measuresHavePlaces_11 rfl (lv_at hl 0 rfl) ?_
    refine lv_iconst (v := nI (1)) hx hb d_FA_measuresHavePlaces_12 (by decide) ?_
    refine lv_iload_n hx hb d_FA_measuresHavePlaces_13 rfl (lv_at hl 1 rfl) ?_
    refine fm_cv S (c_FO_wordN l dC dI o wa sa la sz sc hv cI B w st ln 1 i (hF) (by omega) (by omega)) rfl rfl k_FO_word q_2_68 ⟨Nat.le_of_ble_eq_true rfl, Nat.le_of_ble_eq_true rfl⟩ (hP.sub [0, 1, 2, 3] rfl) (hK.sub [0] rfl) 0 rfl rfl rfl hl.1 rfl (Nat.le_of_ble_eq_true rfl) ⟨Nat.zero_le _, Nat.zero_le _⟩ d_FA_measuresHavePlaces_14 ?_
    refine lv_istore_n (lv' := [(2, .int (fm_W B 1 i)), (0, .ref o), (1, .int (nI (i)))]) hx hb d_FA_measuresHavePlaces_17 rfl hl (by decide) rfl (fun ls hl => ?_)
    refine lv_iload_n hx hb d_FA_measuresHavePlaces_18 rfl (lv_at hl 0 rfl) ?_
    refine fm_cs S (c_FO_widthPlace l dC dI (fm_W B 1 i) ) rfl rfl k_FO_widthPlace q_2_73 ⟨Nat.le_of_ble_eq_true rfl, Nat.le_of_ble_eq_true rfl⟩ (hP.sub [] rfl) (hK.sub [] rfl) rfl hl.1 rfl (Nat.le_of_ble_eq_true rfl) ⟨Nat.zero_le _, Nat.zero_le _⟩ d_FA_measuresHavePlaces_19 ?_
    refine fm_tw (z := nI (fm_AT B 1 i 0)) (by simp only [fm_by_W hB _ _ (show 0 < 4 by decide), fm_by_W hB _ _ (show 1 < 4 by decide), fm_by_W hB _ _ (show 2 < 4 by decide), fm_by_W hB _ _ (show 3 < 4 by decide)]) ?_
    have f0_19 := fm_AT_lt hB 1 i 0
    refine lv_aload_n hx hb d_FA_measuresHavePlaces_22 rfl (lv_at hl 1 rfl) ?_
    refine lv_iconst (v := nI (2)) hx hb d_FA_measuresHavePlaces_23 (by decide) ?_
    refine fm_cv S (c_FO_lengthOfN l dC dI o wa sa la sz sc hv cI B w st ln 2 (hF) (by omega)) rfl rfl k_FO_lengthOf q_2_58 ⟨Nat.le_of_ble_eq_true rfl, Nat.le_of_ble_eq_true rfl⟩ (hP.sub [0, 1, 2, 3] rfl) (hK.sub [0] rfl) 0 rfl rfl rfl hl.1 rfl (Nat.le_of_ble_eq_true rfl) ⟨Nat.zero_le _, Nat.zero_le _⟩ d_FA_measuresHavePlaces_24 ?_
    have f0_24 := fm_WD_le hB 2
    refine lv_icmp_ge (tgt := 66) hx hb d_FA_measuresHavePlaces_27 (by decide) (fun c0 => ?_) (fun c0 => ?_)
    · have c_27 : fm_WD B 2 ≤ fm_AT B 1 i 0 := (nI_leI (a := fm_WD B 2) (b := fm_AT B 1 i 0) (by omega) (by omega)).mp c0
      refine lv_iconst (v := nI (0)) hx hb d_FA_measuresHavePlaces_66 (by decide) ?_
      exact W.zret (ty := .boolean) hx hb hr (rfl) (fun t ht hW => ⟨_, rfl, by refine fm_bI_0 (fm_all_no (k := i) (by omega) ?_); first | (simp [fm_size1, Nat.not_lt.mpr c_27]; done) | (simp [fm_size1, Nat.not_lt.mpr c_39]; done) | (simp [fm_size1, Nat.not_lt.mpr c_51]; done) | (simp [fm_size1, Nat.not_lt.mp c_63]; done), ht⟩) (fun q hq => by cases hq) d_FA_measuresHavePlaces_67
    · have c_27 : ¬ (fm_WD B 2 ≤ fm_AT B 1 i 0) := fun z => c0 ((nI_leI (a := fm_WD B 2) (b := fm_AT B 1 i 0) (by omega) (by omega)).mpr z)
      refine lv_iload_n hx hb d_FA_measuresHavePlaces_30 rfl (lv_at hl 0 rfl) ?_
      refine fm_cs S (c_FO_heightPlace l dC dI (fm_W B 1 i) ) rfl rfl k_FO_heightPlace q_2_74 ⟨Nat.le_of_ble_eq_true rfl, Nat.le_of_ble_eq_true rfl⟩ (hP.sub [] rfl) (hK.sub [] rfl) rfl hl.1 rfl (Nat.le_of_ble_eq_true rfl) ⟨Nat.zero_le _, Nat.zero_le _⟩ d_FA_measuresHavePlaces_31 ?_
      refine fm_tw (z := nI (fm_AT B 1 i 1 / 16)) (by simp only [fm_by_W hB _ _ (show 0 < 4 by decide), fm_by_W hB _ _ (show 1 < 4 by decide), fm_by_W hB _ _ (show 2 < 4 by decide), fm_by_W hB _ _ (show 3 < 4 by decide)]) ?_
      have f0_31 := fm_AT_lt hB 1 i 1
      refine lv_aload_n hx hb d_FA_measuresHavePlaces_34 rfl (lv_at hl 1 rfl) ?_
      refine lv_iconst (v := nI (3)) hx hb d_FA_measuresHavePlaces_35 (by decide) ?_
      refine fm_cv S (c_FO_lengthOfN l dC dI o wa sa la sz sc hv cI B w st ln 3 (hF) (by omega)) rfl rfl k_FO_lengthOf q_2_58 ⟨Nat.le_of_ble_eq_true rfl, Nat.le_of_ble_eq_true rfl⟩ (hP.sub [0, 1, 2, 3] rfl) (hK.sub [0] rfl) 0 rfl rfl rfl hl.1 rfl (Nat.le_of_ble_eq_true rfl) ⟨Nat.zero_le _, Nat.zero_le _⟩ d_FA_measuresHavePlaces_36 ?_
      have f0_36 := fm_WD_le hB 3
      refine lv_icmp_ge (tgt := 66) hx hb d_FA_measuresHavePlaces_39 (by decide) (fun c0 => ?_) (fun c0 => ?_)
      · have c_39 : fm_WD B 3 ≤ fm_AT B 1 i 1 / 16 := (nI_leI (a := fm_WD B 3) (b := fm_AT B 1 i 1 / 16) (by omega) (by omega)).mp c0
        refine lv_iconst (v := nI (0)) hx hb d_FA_measuresHavePlaces_66 (by decide) ?_
        exact W.zret (ty := .boolean) hx hb hr (rfl) (fun t ht hW => ⟨_, rfl, by refine fm_bI_0 (fm_all_no (k := i) (by omega) ?_); first | (simp [fm_size1, Nat.not_lt.mpr c_27]; done) | (simp [fm_size1, Nat.not_lt.mpr c_39]; done) | (simp [fm_size1, Nat.not_lt.mpr c_51]; done) | (simp [fm_size1, Nat.not_lt.mp c_63]; done), ht⟩) (fun q hq => by cases hq) d_FA_measuresHavePlaces_67
      · have c_39 : ¬ (fm_WD B 3 ≤ fm_AT B 1 i 1 / 16) := fun z => c0 ((nI_leI (a := fm_WD B 3) (b := fm_AT B 1 i 1 / 16) (by omega) (by omega)).mpr z)
        refine lv_iload_n hx hb d_FA_measuresHavePlaces_42 rfl (lv_at hl 0 rfl) ?_
        refine fm_cs S (c_FO_depthPlace l dC dI (fm_W B 1 i) ) rfl rfl k_FO_depthPlace q_2_77 ⟨Nat.le_of_ble_eq_true rfl, Nat.le_of_ble_eq_true rfl⟩ (hP.sub [] rfl) (hK.sub [] rfl) rfl hl.1 rfl (Nat.le_of_ble_eq_true rfl) ⟨Nat.zero_le _, Nat.zero_le _⟩ d_FA_measuresHavePlaces_43 ?_
        refine fm_tw (z := nI (fm_AT B 1 i 1 % 16)) (by simp only [fm_by_W hB _ _ (show 0 < 4 by decide), fm_by_W hB _ _ (show 1 < 4 by decide), fm_by_W hB _ _ (show 2 < 4 by decide), fm_by_W hB _ _ (show 3 < 4 by decide)]) ?_
        have f0_43 := fm_AT_lt hB 1 i 1
        refine lv_aload_n hx hb d_FA_measuresHavePlaces_46 rfl (lv_at hl 1 rfl) ?_
        refine lv_iconst (v := nI (4)) hx hb d_FA_measuresHavePlaces_47 (by decide) ?_
        refine fm_cv S (c_FO_lengthOfN l dC dI o wa sa la sz sc hv cI B w st ln 4 (hF) (by omega)) rfl rfl k_FO_lengthOf q_2_58 ⟨Nat.le_of_ble_eq_true rfl, Nat.le_of_ble_eq_true rfl⟩ (hP.sub [0, 1, 2, 3] rfl) (hK.sub [0] rfl) 0 rfl rfl rfl hl.1 rfl (Nat.le_of_ble_eq_true rfl) ⟨Nat.zero_le _, Nat.zero_le _⟩ d_FA_measuresHavePlaces_48 ?_
        have f0_48 := fm_WD_le hB 4
        refine lv_icmp_ge (tgt := 66) hx hb d_FA_measuresHavePlaces_51 (by decide) (fun c0 => ?_) (fun c0 => ?_)
        · have c_51 : fm_WD B 4 ≤ fm_AT B 1 i 1 % 16 := (nI_leI (a := fm_WD B 4) (b := fm_AT B 1 i 1 % 16) (by omega) (by omega)).mp c0
          refine lv_iconst (v := nI (0)) hx hb d_FA_measuresHavePlaces_66 (by decide) ?_
          exact W.zret (ty := .boolean) hx hb hr (rfl) (fun t ht hW => ⟨_, rfl, by refine fm_bI_0 (fm_all_no (k := i) (by omega) ?_); first | (simp [fm_size1, Nat.not_lt.mpr c_27]; done) | (simp [fm_size1, Nat.not_lt.mpr c_39]; done) | (simp [fm_size1, Nat.not_lt.mpr c_51]; done) | (simp [fm_size1, Nat.not_lt.mp c_63]; done), ht⟩) (fun q hq => by cases hq) d_FA_measuresHavePlaces_67
        · have c_51 : ¬ (fm_WD B 4 ≤ fm_AT B 1 i 1 % 16) := fun z => c0 ((nI_leI (a := fm_WD B 4) (b := fm_AT B 1 i 1 % 16) (by omega) (by omega)).mpr z)
          refine lv_iload_n hx hb d_FA_measuresHavePlaces_54 rfl (lv_at hl 0 rfl) ?_
          refine fm_cs S (c_FO_italicPlace l dC dI (fm_W B 1 i) ) rfl rfl k_FO_italicPlace q_2_80 ⟨Nat.le_of_ble_eq_true rfl, Nat.le_of_ble_eq_true rfl⟩ (hP.sub [] rfl) (hK.sub [] rfl) rfl hl.1 rfl (Nat.le_of_ble_eq_true rfl) ⟨Nat.zero_le _, Nat.zero_le _⟩ d_FA_measuresHavePlaces_55 ?_
          refine fm_tw (z := nI (fm_AT B 1 i 2 / 4)) (by simp only [fm_by_W hB _ _ (show 0 < 4 by decide), fm_by_W hB _ _ (show 1 < 4 by decide), fm_by_W hB _ _ (show 2 < 4 by decide), fm_by_W hB _ _ (show 3 < 4 by decide)]) ?_
          have f0_55 := fm_AT_lt hB 1 i 2
          refine lv_aload_n hx hb d_FA_measuresHavePlaces_58 rfl (lv_at hl 1 rfl) ?_
          refine lv_iconst (v := nI (5)) hx hb d_FA_measuresHavePlaces_59 (by decide) ?_
          refine fm_cv S (c_FO_lengthOfN l dC dI o wa sa la sz sc hv cI B w st ln 5 (hF) (by omega)) rfl rfl k_FO_lengthOf q_2_58 ⟨Nat.le_of_ble_eq_true rfl, Nat.le_of_ble_eq_true rfl⟩ (hP.sub [0, 1, 2, 3] rfl) (hK.sub [0] rfl) 0 rfl rfl rfl hl.1 rfl (Nat.le_of_ble_eq_true rfl) ⟨Nat.zero_le _, Nat.zero_le _⟩ d_FA_measuresHavePlaces_60 ?_
          have f0_60 := fm_WD_le hB 5
          refine lv_icmp_lt (tgt := 68) hx hb d_FA_measuresHavePlaces_63 (by decide) (fun c0 => ?_) (fun c0 => ?_)
          · have c_63 : fm_AT B 1 i 2 / 4 < fm_WD B 5 := (nI_ltI (a := fm_AT B 1 i 2 / 4) (b := fm_WD B 5) (by omega) (by omega)).mp c0
            refine lv_iinc (v := nI (i + 1)) (lv' := [(1, .int (nI (i + 1))), (2, .int (fm_W B 1 i)), (0, .ref o)]) hx hb d_FA_measuresHavePlaces_68 hl (k := 2) rfl (nI_1 _) (by decide) rfl (fun ls hl => ?_)
            refine lv_goto (tgt := 2) hx hb d_FA_measuresHavePlaces_71 (by decide) ?_
            exact ih_2 (i + 1) ls (⟨by omega, by rw [fm_all, hal, Bool.true_and]; simp [fm_size1, Nat.lt_of_not_le c_27, Nat.lt_of_not_le c_39, Nat.lt_of_not_le c_51, c_63]⟩) (by omega) (lv_sub hl [2, 0] rfl)
          · have c_63 : ¬ (fm_AT B 1 i 2 / 4 < fm_WD B 5) := fun z => c0 ((nI_ltI (a := fm_AT B 1 i 2 / 4) (b := fm_WD B 5) (by omega) (by omega)).mpr z)
            refine lv_iconst (v := nI (0)) hx hb d_FA_measuresHavePlaces_66 (by decide) ?_
            exact W.zret (ty := .boolean) hx hb hr (rfl) (fun t ht hW => ⟨_, rfl, by refine fm_bI_0 (fm_all_no (k := i) (by omega) ?_); first | (simp [fm_size1, Nat.not_lt.mpr c_27]; done) | (simp [fm_size1, Nat.not_lt.mpr c_39]; done) | (simp [fm_size1, Nat.not_lt.mpr c_51]; done) | (simp [fm_size1, Nat.not_lt.mp c_63]; done), ht⟩) (fun q hq => by cases hq) d_FA_measuresHavePlaces_67
theorem d_FA_areFractions_0 : decode b_FA_areFractions 0 = .ok (.iload_n 2, 1) := by decide +kernel
theorem d_FA_areFractions_1 : decode b_FA_areFractions 1 = .ok (.istore_n 3, 1) := by decide +kernel
theorem d_FA_areFractions_2 : decode b_FA_areFractions 2 = .ok (.iload_n 3, 1) := by decide +kernel
theorem d_FA_areFractions_3 : decode b_FA_areFractions 3 = .ok (.aload_n 0, 1) := by decide +kernel
theorem d_FA_areFractions_4 : decode b_FA_areFractions 4 = .ok (.iload_n 1, 1) := by decide +kernel
theorem d_FA_areFractions_5 : decode b_FA_areFractions 5 = .ok (.invokevirtual 57, 3) := by decide +kernel
theorem d_FA_areFractions_8 : decode b_FA_areFractions 8 = .ok (.if_icmp .ge 36, 3) := by decide +kernel
theorem d_FA_areFractions_11 : decode b_FA_areFractions 11 = .ok (.aload_n 0, 1) := by decide +kernel
theorem d_FA_areFractions_12 : decode b_FA_areFractions 12 = .ok (.iload_n 1, 1) := by decide +kernel
theorem d_FA_areFractions_13 : decode b_FA_areFractions 13 = .ok (.iload_n 3, 1) := by decide +kernel
theorem d_FA_areFractions_14 : decode b_FA_areFractions 14 = .ok (.invokevirtual 29, 3) := by decide +kernel
theorem d_FA_areFractions_17 : decode b_FA_areFractions 17 = .ok (.iconst 0, 1) := by decide +kernel
theorem d_FA_areFractions_18 : decode b_FA_areFractions 18 = .ok (.invokestatic 91, 3) := by decide +kernel
theorem d_FA_areFractions_21 : decode b_FA_areFractions 21 = .ok (.istore 4, 2) := by decide +kernel
theorem d_FA_areFractions_23 : decode b_FA_areFractions 23 = .ok (.iload 4, 2) := by decide +kernel
theorem d_FA_areFractions_25 : decode b_FA_areFractions 25 = .ok (.ifCond .eq 13, 3) := by decide +kernel
theorem d_FA_areFractions_28 : decode b_FA_areFractions 28 = .ok (.iload 4, 2) := by decide +kernel
theorem d_FA_areFractions_30 : decode b_FA_areFractions 30 = .ok (.sipush 255, 3) := by decide +kernel
theorem d_FA_areFractions_33 : decode b_FA_areFractions 33 = .ok (.if_icmp .eq 5, 3) := by decide +kernel
theorem d_FA_areFractions_36 : decode b_FA_areFractions 36 = .ok (.iconst 0, 1) := by decide +kernel
theorem d_FA_areFractions_37 : decode b_FA_areFractions 37 = .ok (.ireturn, 1) := by decide +kernel
theorem d_FA_areFractions_38 : decode b_FA_areFractions 38 = .ok (.iinc 3 1, 3) := by decide +kernel
theorem d_FA_areFractions_41 : decode b_FA_areFractions 41 = .ok (.goto (-39), 3) := by decide +kernel
theorem d_FA_areFractions_44 : decode b_FA_areFractions 44 = .ok (.iconst 1, 1) := by decide +kernel
theorem d_FA_areFractions_45 : decode b_FA_areFractions 45 = .ok (.ireturn, 1) := by decide +kernel
set_option maxHeartbeats 4000000 in
set_option maxRecDepth 100000 in
theorem c_FA_areFractions (l : Launch) (dC : Nat → ClassId) (dI : Nat → Nat → Nat) (o : Nat) (wa : Nat) (sa : Nat) (la : Nat) (sz : Int32) (sc : Int32) (hv : Int32) (cI : ClassId) (B : Nat → Nat) (w : Nat → Int32) (st : Nat → Int32) (ln : Nat → Int32) (p : Nat) (first : Nat) (hF : fm_FO B w st ln) (hp : p < 10) (hf : first < 2) : fm_M l (dC, dI) y_FA_areFractions w_FA_areFractions ({ frames := 1, cells := 0, slots := 0, locals := 23 }) [.ref o, .int (nI (p)), .int (nI (first))] [(o, .inr (1, [.ref wa, .ref sa, .ref la, .int (nI (fm_HF B 2)), .int (nI (fm_HF B 3)), .int (sz), .int (sc), .int (hv)])), (wa, .inl (cI, 2048, .inl (w))), (sa, .inl (cI, 10, .inl (st))), (la, .inl (cI, 10, .inl (ln)))] [(cI, .int)] ((fm_bI (fm_fracs B p first))) := by
  refine Met.ofW (cc := b_FA_areFractions) (maxL := 5) (ret := (some .boolean)) (by decide) rfl ?_
  intro pg ev s m args below meth cd s₁ BD hml hv
  obtain ⟨rfl, hP, hK⟩ := hv
  have hx := BD.exec
  have hb := BD.bytes
  have hr := BD.returns
  have hts := atoms_spec (ws := w_FA_areFractions) BD.pre
  have ht : ∀ w ∈ fm_T, w.before _ s = true := fun w h => hts w (List.mem_cons_of_mem _ h)
  have hown : s.vm.findClass R_FA = some m.cls := findClass_of_methodNamed BD.named
  have hlocks := BD.notSynchronized
  have S : CallFix pg m cd b_FA_areFractions 5 s _ w_FA_areFractions R_FA := ⟨hx, hb, hml, hown, hts⟩
  have hl := lv_entry ([.ref o, .int (nI (p)), .int (nI (first))]) (n := 5) (Nat.le_of_ble_eq_true rfl)
  rw [lg_entry_eq]
  generalize (lg_sl ([.ref o, .int (nI (p)), .int (nI (first))]) ++ List.replicate (5 - (lg_sl ([.ref o, .int (nI (p)), .int (nI (first))])).length) Slot.unset).toArray = ls at hl ⊢
  have hl : lv_has ls 5 [(0, .ref o), (1, .int (nI (p))), (2, .int (nI (first)))] := hl
  have hB : ∀ i, B i < 256 := hF.1.1
  obtain ⟨hL, hFw, hFs, hFl⟩ := id hF
  obtain ⟨-, hq, h3, h10⟩ := id hL
  have hwp := fm_WD_le hB p
  refine lv_iload_n hx hb d_FA_areFractions_0 rfl (lv_at hl 2 rfl) ?_
  refine lv_istore_n (lv' := [(3, .int (nI (first))), (0, .ref o), (1, .int (nI (p))), (2, .int (nI (first)))]) hx hb d_FA_areFractions_1 rfl hl (by decide) rfl (fun ls hl => ?_)
  refine fm_loop1 (LV := fun (i : Nat) => [(0, .ref o), (1, .int (nI (p))), (3, .int (nI (i)))]) (I := fun (i : Nat) => first ≤ i ∧ (i ≤ fm_WD B p ∨ i = first) ∧ fm_all i (fm_fr B p first) = true) (μ := fun (i : Nat) => fm_WD B p - i) ?_ first (⟨Nat.le_refl _, Or.inr rfl, fm_all_lt (Nat.le_refl _)⟩) ls (lv_sub hl [1, 2, 0] rfl)
  intro i hI_2 ih_2 ls hl
  have hl : lv_has ls 5 [(0, .ref o), (1, .int (nI (p))), (3, .int (nI (i)))] := hl
  obtain ⟨hi, hi2, hal⟩ := hI_2
  refine lv_iload_n hx hb d_FA_areFractions_2 rfl (lv_at hl 2 rfl) ?_
  refine lv_aload_n hx hb d_FA_areFractions_3 rfl (lv_at hl 0 rfl) ?_
  refine lv_iload_n hx hb d_FA_areFractions_4 rfl (lv_at hl 1 rfl) ?_
  refine fm_cv S (c_FO_lengthOfN l dC dI o wa sa la sz sc hv cI B w st ln p (hF) (by omega)) rfl rfl k_FO_lengthOf q_2_58 ⟨Nat.le_of_ble_eq_true rfl, Nat.le_of_ble_eq_true rfl⟩ (hP.sub [0, 1, 2, 3] rfl) (hK.sub [0] rfl) 0 rfl rfl rfl hl.1 rfl (Nat.le_of_ble_eq_true rfl) ⟨Nat.zero_le _, Nat.zero_le _⟩ d_FA_areFractions_5 ?_
  have f0_5 := fm_WD_le hB p
  refine lv_icmp_ge (tgt := 44) hx hb d_FA_areFractions_8 (by decide) (fun c0 => ?_) (fun c0 => ?_)
  · have c_8 : fm_WD B p ≤ i := (nI_leI (a := fm_WD B p) (b := i) (by omega) (by omega)).mp c0
    refine lv_iconst (v := nI (1)) hx hb d_FA_areFractions_44 (by decide) ?_
    exact W.zret (ty := .boolean) hx hb hr (rfl) (fun t ht hW => ⟨_, rfl, fm_bI_1 (by rw [← fm_fracs_x c_8 hi2]; exact hal), ht⟩) (fun q hq => by cases hq) d_FA_areFractions_45
  · have c_8 : ¬ (fm_WD B p ≤ i) := fun z => c0 ((nI_leI (a := fm_WD B p) (b := i) (by omega) (by omega)).mpr z)
    refine lv_aload_n hx hb d_FA_areFractions_11 rfl (lv_at hl 0 rfl) ?_
    refine lv_iload_n hx hb d_FA_areFractions_12 rfl (lv_at hl 1 rfl) ?_
    refine lv_iload_n hx hb d_FA_areFractions_13 rfl (lv_at hl 2 rfl) ?_
    refine fm_cv S (c_FO_wordN l dC dI o wa sa la sz sc hv cI B w st ln p i (hF) (by omega) (by omega)) rfl rfl k_FO_word q_2_68 ⟨Nat.le_of_ble_eq_true rfl, Nat.le_of_ble_eq_true rfl⟩ (hP.sub [0, 1, 2, 3] rfl) (hK.sub [0] rfl) 0 rfl rfl rfl hl.1 rfl (Nat.le_of_ble_eq_true rfl) ⟨Nat.zero_le _, Nat.zero_le _⟩ d_FA_areFractions_14 ?_
    refine lv_iconst (v := nI (0)) hx hb d_FA_areFractions_17 (by decide) ?_
    refine fm_cs S (c_FO_byteOf l dC dI (fm_W B p i) 0 (by omega)) rfl rfl k_FO_byteOf q_2_106 ⟨Nat.le_of_ble_eq_true rfl, Nat.le_of_ble_eq_true rfl⟩ (hP.sub [] rfl) (hK.sub [] rfl) rfl hl.1 rfl (Nat.le_of_ble_eq_true rfl) ⟨Nat.zero_le _, Nat.zero_le _⟩ d_FA_areFractions_18 ?_
    refine fm_tw (z := nI (fm_AT B p i 0)) (by simp only [fm_by_W hB _ _ (show 0 < 4 by decide), fm_by_W hB _ _ (show 1 < 4 by decide), fm_by_W hB _ _ (show 2 < 4 by decide), fm_by_W hB _ _ (show 3 < 4 by decide)]) ?_
    have f0_18 := fm_AT_lt hB p i 0
    refine lv_istore (lv' := [(4, .int (nI (fm_AT B p i 0))), (0, .ref o), (1, .int (nI (p))), (3, .int (nI (i)))]) hx hb d_FA_areFractions_21 hl (by decide) rfl (fun ls hl => ?_)
    refine lv_iload hx hb d_FA_areFractions_23 (lv_at hl 0 rfl) ?_
    refine lv_if_eq (tgt := 38) hx hb d_FA_areFractions_25 (by decide) (fun c0 => ?_) (fun c0 => ?_)
    · have c_25 : fm_AT B p i 0 = 0 := (nI_eq (a := fm_AT B p i 0) (b := 0) (by omega) (by omega)).mp c0
      refine lv_iinc (v := nI (i + 1)) (lv' := [(3, .int (nI (i + 1))), (4, .int (nI (fm_AT B p i 0))), (0, .ref o), (1, .int (nI (p)))]) hx hb d_FA_areFractions_38 hl (k := 3) rfl (nI_1 _) (by decide) rfl (fun ls hl => ?_)
      refine lv_goto (tgt := 2) hx hb d_FA_areFractions_41 (by decide) ?_
      exact ih_2 (i + 1) ls (⟨by omega, by omega, by rw [fm_all, hal, Bool.true_and]; first | exact fm_fr_t (Or.inl c_25) | exact fm_fr_t (Or.inr c_33)⟩) (by omega) (lv_sub hl [2, 3, 0] rfl)
    · have c_25 : ¬ (fm_AT B p i 0 = 0) := fun z => c0 ((nI_eq (a := fm_AT B p i 0) (b := 0) (by omega) (by omega)).mpr z)
      refine lv_iload hx hb d_FA_areFractions_28 (lv_at hl 0 rfl) ?_
      refine lv_sipush (v := nI (255)) hx hb d_FA_areFractions_30 (by decide) ?_
      refine lv_icmp_eq (tgt := 38) hx hb d_FA_areFractions_33 (by decide) (fun c0 => ?_) (fun c0 => ?_)
      · have c_33 : fm_AT B p i 0 = 255 := (nI_eq (a := fm_AT B p i 0) (b := 255) (by omega) (by omega)).mp c0
        refine lv_iinc (v := nI (i + 1)) (lv' := [(3, .int (nI (i + 1))), (4, .int (nI (fm_AT B p i 0))), (0, .ref o), (1, .int (nI (p)))]) hx hb d_FA_areFractions_38 hl (k := 3) rfl (nI_1 _) (by decide) rfl (fun ls hl => ?_)
        refine lv_goto (tgt := 2) hx hb d_FA_areFractions_41 (by decide) ?_
        exact ih_2 (i + 1) ls (⟨by omega, by omega, by rw [fm_all, hal, Bool.true_and]; first | exact fm_fr_t (Or.inl c_25) | exact fm_fr_t (Or.inr c_33)⟩) (by omega) (lv_sub hl [2, 3, 0] rfl)
      · have c_33 : ¬ (fm_AT B p i 0 = 255) := fun z => c0 ((nI_eq (a := fm_AT B p i 0) (b := 255) (by omega) (by omega)).mpr z)
        refine lv_iconst (v := nI (0)) hx hb d_FA_areFractions_36 (by decide) ?_
        exact W.zret (ty := .boolean) hx hb hr (rfl) (fun t ht hW => ⟨_, rfl, fm_bI_0 (fm_all_no (k := i) (by omega) (fm_fr_f hi c_25 c_33)), ht⟩) (fun q hq => by cases hq) d_FA_areFractions_37
theorem d_FA_fractionsHold_0 : decode b_FA_fractionsHold 0 = .ok (.iconst 2, 1) := by decide +kernel
theorem d_FA_fractionsHold_1 : decode b_FA_fractionsHold 1 = .ok (.istore_n 1, 1) := by decide +kernel
theorem d_FA_fractionsHold_2 : decode b_FA_fractionsHold 2 = .ok (.iload_n 1, 1) := by decide +kernel
theorem d_FA_fractionsHold_3 : decode b_FA_fractionsHold 3 = .ok (.iconst 5, 1) := by decide +kernel
theorem d_FA_fractionsHold_4 : decode b_FA_fractionsHold 4 = .ok (.if_icmp .gt 29, 3) := by decide +kernel
theorem d_FA_fractionsHold_7 : decode b_FA_fractionsHold 7 = .ok (.aload_n 0, 1) := by decide +kernel
theorem d_FA_fractionsHold_8 : decode b_FA_fractionsHold 8 = .ok (.iload_n 1, 1) := by decide +kernel
theorem d_FA_fractionsHold_9 : decode b_FA_fractionsHold 9 = .ok (.iconst 0, 1) := by decide +kernel
theorem d_FA_fractionsHold_10 : decode b_FA_fractionsHold 10 = .ok (.invokevirtual 29, 3) := by decide +kernel
theorem d_FA_fractionsHold_13 : decode b_FA_fractionsHold 13 = .ok (.ifCond .ne 12, 3) := by decide +kernel
theorem d_FA_fractionsHold_16 : decode b_FA_fractionsHold 16 = .ok (.aload_n 0, 1) := by decide +kernel
theorem d_FA_fractionsHold_17 : decode b_FA_fractionsHold 17 = .ok (.iload_n 1, 1) := by decide +kernel
theorem d_FA_fractionsHold_18 : decode b_FA_fractionsHold 18 = .ok (.iconst 1, 1) := by decide +kernel
theorem d_FA_fractionsHold_19 : decode b_FA_fractionsHold 19 = .ok (.invokestatic 49, 3) := by decide +kernel
theorem d_FA_fractionsHold_22 : decode b_FA_fractionsHold 22 = .ok (.ifCond .ne 5, 3) := by decide +kernel
theorem d_FA_fractionsHold_25 : decode b_FA_fractionsHold 25 = .ok (.iconst 0, 1) := by decide +kernel
theorem d_FA_fractionsHold_26 : decode b_FA_fractionsHold 26 = .ok (.ireturn, 1) := by decide +kernel
theorem d_FA_fractionsHold_27 : decode b_FA_fractionsHold 27 = .ok (.iinc 1 1, 3) := by decide +kernel
theorem d_FA_fractionsHold_30 : decode b_FA_fractionsHold 30 = .ok (.goto (-28), 3) := by decide +kernel
theorem d_FA_fractionsHold_33 : decode b_FA_fractionsHold 33 = .ok (.aload_n 0, 1) := by decide +kernel
theorem d_FA_fractionsHold_34 : decode b_FA_fractionsHold 34 = .ok (.bipush 7, 2) := by decide +kernel
theorem d_FA_fractionsHold_36 : decode b_FA_fractionsHold 36 = .ok (.iconst 0, 1) := by decide +kernel
theorem d_FA_fractionsHold_37 : decode b_FA_fractionsHold 37 = .ok (.invokestatic 49, 3) := by decide +kernel
theorem d_FA_fractionsHold_40 : decode b_FA_fractionsHold 40 = .ok (.ireturn, 1) := by decide +kernel
set_option maxHeartbeats 4000000 in
set_option maxRecDepth 100000 in
theorem c_FA_fractionsHold (l : Launch) (dC : Nat → ClassId) (dI : Nat → Nat → Nat) (o : Nat) (wa : Nat) (sa : Nat) (la : Nat) (sz : Int32) (sc : Int32) (hv : Int32) (cI : ClassId) (B : Nat → Nat) (w : Nat → Int32) (st : Nat → Int32) (ln : Nat → Int32) (hF : fm_FO B w st ln) (hne : ∀ p, 2 ≤ p → p < 6 → 0 < fm_WD B p) : fm_M l (dC, dI) y_FA_fractionsHold w_FA_fractionsHold ({ frames := 2, cells := 0, slots := 0, locals := 47 }) [.ref o] [(o, .inr (1, [.ref wa, .ref sa, .ref la, .int (nI (fm_HF B 2)), .int (nI (fm_HF B 3)), .int (sz), .int (sc), .int (hv)])), (wa, .inl (cI, 2048, .inl (w))), (sa, .inl (cI, 10, .inl (st))), (la, .inl (cI, 10, .inl (ln)))] [(cI, .int)] ((fm_bI (fm_tables B))) := by
  refine Met.ofW (cc := b_FA_fractionsHold) (maxL := 2) (ret := (some .boolean)) (by decide) rfl ?_
  intro pg ev s m args below meth cd s₁ BD hml hv
  obtain ⟨rfl, hP, hK⟩ := hv
  have hx := BD.exec
  have hb := BD.bytes
  have hr := BD.returns
  have hts := atoms_spec (ws := w_FA_fractionsHold) BD.pre
  have ht : ∀ w ∈ fm_T, w.before _ s = true := fun w h => hts w (List.mem_cons_of_mem _ h)
  have hown : s.vm.findClass R_FA = some m.cls := findClass_of_methodNamed BD.named
  have hlocks := BD.notSynchronized
  have S : CallFix pg m cd b_FA_fractionsHold 2 s _ w_FA_fractionsHold R_FA := ⟨hx, hb, hml, hown, hts⟩
  have hl := lv_entry ([.ref o]) (n := 2) (Nat.le_of_ble_eq_true rfl)
  rw [lg_entry_eq]
  generalize (lg_sl ([.ref o]) ++ List.replicate (2 - (lg_sl ([.ref o])).length) Slot.unset).toArray = ls at hl ⊢
  have hl : lv_has ls 2 [(0, .ref o)] := hl
  have hB : ∀ i, B i < 256 := hF.1.1
  obtain ⟨hL, hFw, hFs, hFl⟩ := id hF
  obtain ⟨-, hq, h3, h10⟩ := id hL
  refine lv_iconst (v := nI (2)) hx hb d_FA_fractionsHold_0 (by decide) ?_
  refine lv_istore_n (lv' := [(1, .int (nI (2))), (0, .ref o)]) hx hb d_FA_fractionsHold_1 rfl hl (by decide) rfl (fun ls hl => ?_)
  refine fm_loop1 (LV := fun (j : Nat) => [(0, .ref o), (1, .int (nI (j + 2)))]) (I := fun (j : Nat) => j ≤ 4 ∧ fm_all j (fm_tab1 B) = true) (μ := fun (j : Nat) => 4 - j) ?_ 0 (⟨by decide, rfl⟩) ls (lv_sub hl [1, 0] rfl)
  intro j hI_2 ih_2 ls hl
  have hl : lv_has ls 2 [(0, .ref o), (1, .int (nI (j + 2)))] := hl
  obtain ⟨hj, hal⟩ := hI_2
  refine lv_iload_n hx hb d_FA_fractionsHold_2 rfl (lv_at hl 1 rfl) ?_
  refine lv_iconst (v := nI (5)) hx hb d_FA_fractionsHold_3 (by decide) ?_
  refine lv_icmp_gt (tgt := 33) hx hb d_FA_fractionsHold_4 (by decide) (fun c0 => ?_) (fun c0 => ?_)
  · have c_4 : 5 < j + 2 := (nI_ltI (a := 5) (b := j + 2) (by omega) (by omega)).mp c0
    refine lv_aload_n hx hb d_FA_fractionsHold_33 rfl (lv_at hl 0 rfl) ?_
    refine lv_bipush (v := nI (7)) hx hb d_FA_fractionsHold_34 (by decide) ?_
    refine lv_iconst (v := nI (0)) hx hb d_FA_fractionsHold_36 (by decide) ?_
    refine fm_cs S (c_FA_areFractions l dC dI o wa sa la sz sc hv cI B w st ln 7 0 (hF) (by omega) (by omega)) rfl rfl k_FA_areFractions q_2_103 ⟨Nat.le_of_ble_eq_true rfl, Nat.le_of_ble_eq_true rfl⟩ (hP.sub [0, 1, 2, 3] rfl) (hK.sub [0] rfl) rfl hl.1 rfl (Nat.le_of_ble_eq_true rfl) ⟨Nat.zero_le _, Nat.zero_le _⟩ d_FA_fractionsHold_37 ?_
    exact W.zret (ty := .boolean) hx hb hr (fm_bI_z _) (fun t ht hW => ⟨_, rfl, fm_bb (by rw [fm_tables, ← show j = 4 by omega, hal, Bool.and_true]), ht⟩) (fun q hq => by cases hq) d_FA_fractionsHold_40
  · have c_4 : ¬ (5 < j + 2) := fun z => c0 ((nI_ltI (a := 5) (b := j + 2) (by omega) (by omega)).mpr z)
    refine lv_aload_n hx hb d_FA_fractionsHold_7 rfl (lv_at hl 0 rfl) ?_
    refine lv_iload_n hx hb d_FA_fractionsHold_8 rfl (lv_at hl 1 rfl) ?_
    refine lv_iconst (v := nI (0)) hx hb d_FA_fractionsHold_9 (by decide) ?_
    refine fm_cv S (c_FO_wordN l dC dI o wa sa la sz sc hv cI B w st ln (j + 2) 0 (hF) (by omega) (hne _ (by omega) (by omega))) rfl rfl k_FO_word q_2_68 ⟨Nat.le_of_ble_eq_true rfl, Nat.le_of_ble_eq_true rfl⟩ (hP.sub [0, 1, 2, 3] rfl) (hK.sub [0] rfl) 0 rfl rfl rfl hl.1 rfl (Nat.le_of_ble_eq_true rfl) ⟨Nat.zero_le _, Nat.zero_le _⟩ d_FA_fractionsHold_10 ?_
    refine lv_if_ne (tgt := 25) hx hb d_FA_fractionsHold_13 (by decide) (fun c0 => ?_) (fun c0 => ?_)
    · have c_13 := c0
      refine lv_iconst (v := nI (0)) hx hb d_FA_fractionsHold_25 (by decide) ?_
      exact W.zret (ty := .boolean) hx hb hr (rfl) (fun t ht hW => ⟨_, rfl, by refine fm_bI_0 ?_; rw [fm_tables, fm_all_no (n := 4) (k := j) (by omega) (by first | exact fm_tab_f1 hB c_13 | exact fm_tab_f2 hB c_13 c_22), Bool.and_false], ht⟩) (fun q hq => by cases hq) d_FA_fractionsHold_26
    · have c_13 := c0
      refine lv_aload_n hx hb d_FA_fractionsHold_16 rfl (lv_at hl 0 rfl) ?_
      refine lv_iload_n hx hb d_FA_fractionsHold_17 rfl (lv_at hl 1 rfl) ?_
      refine lv_iconst (v := nI (1)) hx hb d_FA_fractionsHold_18 (by decide) ?_
      refine fm_cs S (c_FA_areFractions l dC dI o wa sa la sz sc hv cI B w st ln (j + 2) 1 (hF) (by omega) (by omega)) rfl rfl k_FA_areFractions q_2_103 ⟨Nat.le_of_ble_eq_true rfl, Nat.le_of_ble_eq_true rfl⟩ (hP.sub [0, 1, 2, 3] rfl) (hK.sub [0] rfl) rfl hl.1 rfl (Nat.le_of_ble_eq_true rfl) ⟨Nat.zero_le _, Nat.zero_le _⟩ d_FA_fractionsHold_19 ?_
      refine lv_if_ne (tgt := 27) hx hb d_FA_fractionsHold_22 (by decide) (fun c0 => ?_) (fun c0 => ?_)
      · have c_22 : (fm_fracs B (j + 2) 1) = true := fm_bI_t c0
        refine lv_iinc (v := nI (j + 2 + 1)) (lv' := [(1, .int (nI (j + 2 + 1))), (0, .ref o)]) hx hb d_FA_fractionsHold_27 hl (k := 1) rfl (nI_1 _) (by decide) rfl (fun ls hl => ?_)
        refine lv_goto (tgt := 2) hx hb d_FA_fractionsHold_30 (by decide) ?_
        exact ih_2 (j + 1) ls (⟨by omega, by rw [fm_all, hal, Bool.true_and]; exact fm_tab_t hB c_13 c_22⟩) (by omega) (lv_sub hl [1, 0] rfl)
      · have c_22 : (fm_fracs B (j + 2) 1) = false := fm_bI_f c0
        refine lv_iconst (v := nI (0)) hx hb d_FA_fractionsHold_25 (by decide) ?_
        exact W.zret (ty := .boolean) hx hb hr (rfl) (fun t ht hW => ⟨_, rfl, by refine fm_bI_0 ?_; rw [fm_tables, fm_all_no (n := 4) (k := j) (by omega) (by first | exact fm_tab_f1 hB c_13 | exact fm_tab_f2 hB c_13 c_22), Bool.and_false], ht⟩) (fun q hq => by cases hq) d_FA_fractionsHold_26
