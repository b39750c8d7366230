theorem d_MO_areFractions_0 : decode b_MO_areFractions 0 = .ok (.iconst 1, 1) := by decide +kernel
theorem d_MO_areFractions_1 : decode b_MO_areFractions 1 = .ok (.istore_n 3, 1) := by decide +kernel
theorem d_MO_areFractions_2 : decode b_MO_areFractions 2 = .ok (.iload_n 2, 1) := by decide +kernel
theorem d_MO_areFractions_3 : decode b_MO_areFractions 3 = .ok (.istore 4, 2) := by decide +kernel
theorem d_MO_areFractions_5 : decode b_MO_areFractions 5 = .ok (.iload 4, 2) := by decide +kernel
theorem d_MO_areFractions_7 : decode b_MO_areFractions 7 = .ok (.aload_n 0, 1) := by decide +kernel
theorem d_MO_areFractions_8 : decode b_MO_areFractions 8 = .ok (.iload_n 1, 1) := by decide +kernel
theorem d_MO_areFractions_9 : decode b_MO_areFractions 9 = .ok (.invokestatic 37, 3) := by decide +kernel
theorem d_MO_areFractions_12 : decode b_MO_areFractions 12 = .ok (.if_icmp .ge 44, 3) := by decide +kernel
theorem d_MO_areFractions_15 : decode b_MO_areFractions 15 = .ok (.iload_n 3, 1) := by decide +kernel
theorem d_MO_areFractions_16 : decode b_MO_areFractions 16 = .ok (.ifCond .eq 32, 3) := by decide +kernel
theorem d_MO_areFractions_19 : decode b_MO_areFractions 19 = .ok (.aload_n 0, 1) := by decide +kernel
theorem d_MO_areFractions_20 : decode b_MO_areFractions 20 = .ok (.iload_n 1, 1) := by decide +kernel
theorem d_MO_areFractions_21 : decode b_MO_areFractions 21 = .ok (.iload 4, 2) := by decide +kernel
theorem d_MO_areFractions_23 : decode b_MO_areFractions 23 = .ok (.iconst 0, 1) := by decide +kernel
theorem d_MO_areFractions_24 : decode b_MO_areFractions 24 = .ok (.invokestatic 43, 3) := by decide +kernel
theorem d_MO_areFractions_27 : decode b_MO_areFractions 27 = .ok (.ifCond .eq 17, 3) := by decide +kernel
theorem d_MO_areFractions_30 : decode b_MO_areFractions 30 = .ok (.aload_n 0, 1) := by decide +kernel
theorem d_MO_areFractions_31 : decode b_MO_areFractions 31 = .ok (.iload_n 1, 1) := by decide +kernel
theorem d_MO_areFractions_32 : decode b_MO_areFractions 32 = .ok (.iload 4, 2) := by decide +kernel
theorem d_MO_areFractions_34 : decode b_MO_areFractions 34 = .ok (.iconst 0, 1) := by decide +kernel
theorem d_MO_areFractions_35 : decode b_MO_areFractions 35 = .ok (.invokestatic 43, 3) := by decide +kernel
theorem d_MO_areFractions_38 : decode b_MO_areFractions 38 = .ok (.sipush 255, 3) := by decide +kernel
theorem d_MO_areFractions_41 : decode b_MO_areFractions 41 = .ok (.if_icmp .ne 7, 3) := by decide +kernel
theorem d_MO_areFractions_44 : decode b_MO_areFractions 44 = .ok (.iconst 1, 1) := by decide +kernel
theorem d_MO_areFractions_45 : decode b_MO_areFractions 45 = .ok (.goto 4, 3) := by decide +kernel
theorem d_MO_areFractions_48 : decode b_MO_areFractions 48 = .ok (.iconst 0, 1) := by decide +kernel
theorem d_MO_areFractions_49 : decode b_MO_areFractions 49 = .ok (.istore_n 3, 1) := by decide +kernel
theorem d_MO_areFractions_50 : decode b_MO_areFractions 50 = .ok (.iinc 4 1, 3) := by decide +kernel
theorem d_MO_areFractions_53 : decode b_MO_areFractions 53 = .ok (.goto (-48), 3) := by decide +kernel
theorem d_MO_areFractions_56 : decode b_MO_areFractions 56 = .ok (.iload_n 3, 1) := by decide +kernel
theorem d_MO_areFractions_57 : decode b_MO_areFractions 57 = .ok (.ireturn, 1) := by decide +kernel
set_option maxHeartbeats 4000000 in
set_option maxRecDepth 100000 in
theorem c_MO_areFractions (l : Launch) (dC : Nat → ClassId) (dI : Nat → Nat → Nat) (fa : Nat) (cB : ClassId) (f : Nat → Int32) (p : Nat) (first : Nat) (hL : fm_Len (fm_RB f)) (hp : p < 10) (hf : first < 2) : fm_M l (dC, dI) y_MO_areFractions w_MO_areFractions ({ frames := 4, cells := 0, slots := 0, locals := 88 }) [.ref fa, .int (nI (p)), .int (nI (first))] [(fa, .inl (cB, 8192, .inl (f)))] [(cB, .byte)] ((fm_bI (fm_fracs (fm_RB f) p first))) := by
  refine Met.ofW (cc := b_MO_areFractions) (maxL := 5) (ret := (some .boolean)) (by decide) rfl ?_
  intro pg ev s m args below meth cd s₁ BD hml hv
  obtain ⟨rfl, hP, hK⟩ := hv
  have hx := BD.exec
  have hb := BD.bytes
  have hr := BD.returns
  have hts := atoms_spec (ws := w_MO_areFractions) BD.pre
  have ht : ∀ w ∈ fm_T, w.before _ s = true := fun w h => hts w (List.mem_cons_of_mem _ h)
  have hown : s.vm.findClass R_MO = some m.cls := findClass_of_methodNamed BD.named
  have hlocks := BD.notSynchronized
  have S : CallFix pg m cd b_MO_areFractions 5 s _ w_MO_areFractions R_MO := ⟨hx, hb, hml, hown, hts⟩
  have hl := lv_entry ([.ref fa, .int (nI (p)), .int (nI (first))]) (n := 5) (Nat.le_of_ble_eq_true rfl)
  rw [lg_entry_eq]
  generalize (lg_sl ([.ref fa, .int (nI (p)), .int (nI (first))]) ++ List.replicate (5 - (lg_sl ([.ref fa, .int (nI (p)), .int (nI (first))])).length) Slot.unset).toArray = ls at hl ⊢
  have hl : lv_has ls 5 [(0, .ref fa), (1, .int (nI (p))), (2, .int (nI (first)))] := hl
  obtain ⟨-, hq, h3, h10⟩ := id hL
  refine lv_iconst (v := nI (1)) hx hb d_MO_areFractions_0 (by decide) ?_
  refine lv_istore_n (lv' := [(3, .int (nI (1))), (0, .ref fa), (1, .int (nI (p))), (2, .int (nI (first)))]) hx hb d_MO_areFractions_1 rfl hl (by decide) rfl (fun ls hl => ?_)
  refine lv_iload_n hx hb d_MO_areFractions_2 rfl (lv_at hl 3 rfl) ?_
  refine lv_istore (lv' := [(4, .int (nI (first))), (3, .int (nI (1))), (0, .ref fa), (1, .int (nI (p))), (2, .int (nI (first)))]) hx hb d_MO_areFractions_3 hl (by decide) rfl (fun ls hl => ?_)
  have e0 : nI 1 = fm_bI (fm_all first (fm_fr (fm_RB f) p first)) := by rw [fm_all_lt (Nat.le_refl _)]; rfl
  rw [e0] at hl
  refine fm_loop1 (LV := fun (i : Nat) => [(0, .ref fa), (1, .int (nI (p))), (3, .int (fm_bI (fm_all (i) (fm_fr (fm_RB f) p first)))), (4, .int (nI (i)))]) (I := fun (i : Nat) => first ≤ i ∧ (i ≤ fm_WD (fm_RB f) p ∨ i = first)) (μ := fun (i : Nat) => fm_WD (fm_RB f) p - i) ?_ first (⟨Nat.le_refl _, Or.inr rfl⟩) ls (lv_sub hl [2, 3, 1, 0] rfl)
  intro i hI_5 ih_5 ls hl
  have hl : lv_has ls 5 [(0, .ref fa), (1, .int (nI (p))), (3, .int (fm_bI (fm_all (i) (fm_fr (fm_RB f) p first)))), (4, .int (nI (i)))] := hl
  refine lv_iload hx hb d_MO_areFractions_5 (lv_at hl 3 rfl) ?_
  refine lv_aload_n hx hb d_MO_areFractions_7 rfl (lv_at hl 0 rfl) ?_
  refine lv_iload_n hx hb d_MO_areFractions_8 rfl (lv_at hl 1 rfl) ?_
  refine fm_cs S (c_MO_words l dC dI fa cB f p (by omega) (fun _ => hq)) rfl rfl k_MO_words q_3_175 ⟨Nat.le_of_ble_eq_true rfl, Nat.le_of_ble_eq_true rfl⟩ (hP.sub [0] rfl) (hK.sub [0] rfl) rfl hl.1 rfl (Nat.le_of_ble_eq_true rfl) ⟨Nat.zero_le _, Nat.zero_le _⟩ d_MO_areFractions_9 ?_
  have f0_9 := fm_WD_le (fm_RB_lt f) p
  refine lv_icmp_ge (tgt := 56) hx hb d_MO_areFractions_12 (by decide) (fun c0 => ?_) (fun c0 => ?_)
  · have c_12 : fm_WD (fm_RB f) p ≤ i := (nI_leI (a := fm_WD (fm_RB f) p) (b := i) (by omega) (by omega)).mp c0
    refine lv_iload_n hx hb d_MO_areFractions_56 rfl (lv_at hl 2 rfl) ?_
    exact W.zret (ty := .boolean) hx hb hr (fm_bI_z _) (fun t ht hW => ⟨_, rfl, fm_bb (fm_fracs_x c_12 hI_5.2), ht⟩) (fun q hq => by cases hq) d_MO_areFractions_57
  · have c_12 : ¬ (fm_WD (fm_RB f) p ≤ i) := fun z => c0 ((nI_leI (a := fm_WD (fm_RB f) p) (b := i) (by omega) (by omega)).mpr z)
    have hin := fm_pin hL hp (Nat.lt_of_not_le c_12)
    refine lv_iload_n hx hb d_MO_areFractions_15 rfl (lv_at hl 2 rfl) ?_
    refine lv_if_eq (tgt := 48) hx hb d_MO_areFractions_16 (by decide) (fun c0 => ?_) (fun c0 => ?_)
    · have c_16 : (fm_all (i) (fm_fr (fm_RB f) p first)) = false := fm_bI_f c0
      refine lv_iconst (v := nI (0)) hx hb d_MO_areFractions_48 (by decide) ?_
      refine fm_tw (z := (fm_bI (fm_all (i + 1) (fm_fr (fm_RB f) p first)))) (by first | exact fm_stF1 c_16 | exact fm_stT c_16 (fm_fr_t (Or.inl c_27)) | exact fm_stT c_16 (fm_fr_t (Or.inr c_41)) | exact fm_stF2 (fm_fr_f hI_5.1 c_27 c_41)) ?_
      refine lv_istore_n (lv' := [(3, .int (fm_bI (fm_all (i + 1) (fm_fr (fm_RB f) p first)))), (0, .ref fa), (1, .int (nI (p))), (4, .int (nI (i)))]) hx hb d_MO_areFractions_49 rfl hl (by decide) rfl (fun ls hl => ?_)
      refine lv_iinc (v := nI (i + 1)) (lv' := [(4, .int (nI (i + 1))), (3, .int (fm_bI (fm_all (i + 1) (fm_fr (fm_RB f) p first)))), (0, .ref fa), (1, .int (nI (p)))]) hx hb d_MO_areFractions_50 hl (k := 3) rfl (nI_1 _) (by decide) rfl (fun ls hl => ?_)
      refine lv_goto (tgt := 5) hx hb d_MO_areFractions_53 (by decide) ?_
      exact ih_5 (i + 1) ls (⟨by omega, by omega⟩) (by omega) (lv_sub hl [2, 3, 1, 0] rfl)
    · have c_16 : (fm_all (i) (fm_fr (fm_RB f) p first)) = true := fm_bI_t c0
      refine lv_aload_n hx hb d_MO_areFractions_19 rfl (lv_at hl 0 rfl) ?_
      refine lv_iload_n hx hb d_MO_areFractions_20 rfl (lv_at hl 1 rfl) ?_
      refine lv_iload hx hb d_MO_areFractions_21 (lv_at hl 3 rfl) ?_
      refine lv_iconst (v := nI (0)) hx hb d_MO_areFractions_23 (by decide) ?_
      refine fm_cs S (c_MO_at l dC dI fa cB f p i 0 (by omega) (hq) (by omega) (by omega)) rfl rfl k_MO_at q_3_184 ⟨Nat.le_of_ble_eq_true rfl, Nat.le_of_ble_eq_true rfl⟩ (hP.sub [0] rfl) (hK.sub [0] rfl) rfl hl.1 rfl (Nat.le_of_ble_eq_true rfl) ⟨Nat.zero_le _, Nat.zero_le _⟩ d_MO_areFractions_24 ?_
      have f0_24 := fm_AT_lt (fm_RB_lt f) p i 0
      refine lv_if_eq (tgt := 44) hx hb d_MO_areFractions_27 (by decide) (fun c0 => ?_) (fun c0 => ?_)
      · have c_27 : fm_AT (fm_RB f) p i 0 = 0 := (nI_eq (a := fm_AT (fm_RB f) p i 0) (b := 0) (by omega) (by omega)).mp c0
        refine lv_iconst (v := nI (1)) hx hb d_MO_areFractions_44 (by decide) ?_
        refine lv_goto (tgt := 49) hx hb d_MO_areFractions_45 (by decide) ?_
        refine fm_tw (z := (fm_bI (fm_all (i + 1) (fm_fr (fm_RB f) p first)))) (by first | exact fm_stF1 c_16 | exact fm_stT c_16 (fm_fr_t (Or.inl c_27)) | exact fm_stT c_16 (fm_fr_t (Or.inr c_41)) | exact fm_stF2 (fm_fr_f hI_5.1 c_27 c_41)) ?_
        refine lv_istore_n (lv' := [(3, .int (fm_bI (fm_all (i + 1) (fm_fr (fm_RB f) p first)))), (0, .ref fa), (1, .int (nI (p))), (4, .int (nI (i)))]) hx hb d_MO_areFractions_49 rfl hl (by decide) rfl (fun ls hl => ?_)
        refine lv_iinc (v := nI (i + 1)) (lv' := [(4, .int (nI (i + 1))), (3, .int (fm_bI (fm_all (i + 1) (fm_fr (fm_RB f) p first)))), (0, .ref fa), (1, .int (nI (p)))]) hx hb d_MO_areFractions_50 hl (k := 3) rfl (nI_1 _) (by decide) rfl (fun ls hl => ?_)
        refine lv_goto (tgt := 5) hx hb d_MO_areFractions_53 (by decide) ?_
        exact ih_5 (i + 1) ls (⟨by omega, by omega⟩) (by omega) (lv_sub hl [2, 3, 1, 0] rfl)
      · have c_27 : ¬ (fm_AT (fm_RB f) p i 0 = 0) := fun z => c0 ((nI_eq (a := fm_AT (fm_RB f) p i 0) (b := 0) (by omega) (by omega)).mpr z)
        refine lv_aload_n hx hb d_MO_areFractions_30 rfl (lv_at hl 0 rfl) ?_
        refine lv_iload_n hx hb d_MO_areFractions_31 rfl (lv_at hl 1 rfl) ?_
        refine lv_iload hx hb d_MO_areFractions_32 (lv_at hl 3 rfl) ?_
        refine lv_iconst (v := nI (0)) hx hb d_MO_areFractions_34 (by decide) ?_
        refine fm_cs S (c_MO_at l dC dI fa cB f p i 0 (by omega) (hq) (by omega) (by omega)) rfl rfl k_MO_at q_3_184 ⟨Nat.le_of_ble_eq_true rfl, Nat.le_of_ble_eq_true rfl⟩ (hP.sub [0] rfl) (hK.sub [0] rfl) rfl hl.1 rfl (Nat.le_of_ble_eq_true rfl) ⟨Nat.zero_le _, Nat.zero_le _⟩ d_MO_areFractions_35 ?_
        have f0_35 := fm_AT_lt (fm_RB_lt f) p i 0
        refine lv_sipush (v := nI (255)) hx hb d_MO_areFractions_38 (by decide) ?_
        refine lv_icmp_ne (tgt := 48) hx hb d_MO_areFractions_41 (by decide) (fun c0 => ?_) (fun c0 => ?_)
        · have c_41 : ¬ (fm_AT (fm_RB f) p i 0 = 255) := fun z => c0 ((nI_eq (a := fm_AT (fm_RB f) p i 0) (b := 255) (by omega) (by omega)).mpr z)
          refine lv_iconst (v := nI (0)) hx hb d_MO_areFractions_48 (by decide) ?_
          refine fm_tw (z := (fm_bI (fm_all (i + 1) (fm_fr (fm_RB f) p first)))) (by first | exact fm_stF1 c_16 | exact fm_stT c_16 (fm_fr_t (Or.inl c_27)) | exact fm_stT c_16 (fm_fr_t (Or.inr c_41)) | exact fm_stF2 (fm_fr_f hI_5.1 c_27 c_41)) ?_
          refine lv_istore_n (lv' := [(3, .int (fm_bI (fm_all (i + 1) (fm_fr (fm_RB f) p first)))), (0, .ref fa), (1, .int (nI (p))), (4, .int (nI (i)))]) hx hb d_MO_areFractions_49 rfl hl (by decide) rfl (fun ls hl => ?_)
          refine lv_iinc (v := nI (i + 1)) (lv' := [(4, .int (nI (i + 1))), (3, .int (fm_bI (fm_all (i + 1) (fm_fr (fm_RB f) p first)))), (0, .ref fa), (1, .int (nI (p)))]) hx hb d_MO_areFractions_50 hl (k := 3) rfl (nI_1 _) (by decide) rfl (fun ls hl => ?_)
          refine lv_goto (tgt := 5) hx hb d_MO_areFractions_53 (by decide) ?_
          exact ih_5 (i + 1) ls (⟨by omega, by omega⟩) (by omega) (lv_sub hl [2, 3, 1, 0] rfl)
        · have c_41 : fm_AT (fm_RB f) p i 0 = 255 := (nI_eq (a := fm_AT (fm_RB f) p i 0) (b := 255) (by omega) (by omega)).mp c0
          refine lv_iconst (v := nI (1)) hx hb d_MO_areFractions_44 (by decide) ?_
          refine lv_goto (tgt := 49) hx hb d_MO_areFractions_45 (by decide) ?_
          refine fm_tw (z := (fm_bI (fm_all (i + 1) (fm_fr (fm_RB f) p first)))) (by first | exact fm_stF1 c_16 | exact fm_stT c_16 (fm_fr_t (Or.inl c_27)) | exact fm_stT c_16 (fm_fr_t (Or.inr c_41)) | exact fm_stF2 (fm_fr_f hI_5.1 c_27 c_41)) ?_
          refine lv_istore_n (lv' := [(3, .int (fm_bI (fm_all (i + 1) (fm_fr (fm_RB f) p first)))), (0, .ref fa), (1, .int (nI (p))), (4, .int (nI (i)))]) hx hb d_MO_areFractions_49 rfl hl (by decide) rfl (fun ls hl => ?_)
          refine lv_iinc (v := nI (i + 1)) (lv' := [(4, .int (nI (i + 1))), (3, .int (fm_bI (fm_all (i + 1) (fm_fr (fm_RB f) p first)))), (0, .ref fa), (1, .int (nI (p)))]) hx hb d_MO_areFractions_50 hl (k := 3) rfl (nI_1 _) (by decide) rfl (fun ls hl => ?_)
          refine lv_goto (tgt := 5) hx hb d_MO_areFractions_53 (by decide) ?_
          exact ih_5 (i + 1) ls (⟨by omega, by omega⟩) (by omega) (lv_sub hl [2, 3, 1, 0] rfl)
theorem d_MO_areTablesRight_0 : decode b_MO_areTablesRight 0 = .ok (.aload_n 0, 1) := by decide +kernel
theorem d_MO_areTablesRight_1 : decode b_MO_areTablesRight 1 = .ok (.bipush 7, 2) := by decide +kernel
theorem d_MO_areTablesRight_3 : decode b_MO_areTablesRight 3 = .ok (.iconst 0, 1) := by decide +kernel
theorem d_MO_areTablesRight_4 : decode b_MO_areTablesRight 4 = .ok (.invokestatic 63, 3) := by decide +kernel
theorem d_MO_areTablesRight_7 : decode b_MO_areTablesRight 7 = .ok (.istore_n 1, 1) := by decide +kernel
theorem d_MO_areTablesRight_8 : decode b_MO_areTablesRight 8 = .ok (.iconst 2, 1) := by decide +kernel
theorem d_MO_areTablesRight_9 : decode b_MO_areTablesRight 9 = .ok (.istore_n 2, 1) := by decide +kernel
theorem d_MO_areTablesRight_10 : decode b_MO_areTablesRight 10 = .ok (.iload_n 2, 1) := by decide +kernel
theorem d_MO_areTablesRight_11 : decode b_MO_areTablesRight 11 = .ok (.bipush 6, 2) := by decide +kernel
theorem d_MO_areTablesRight_13 : decode b_MO_areTablesRight 13 = .ok (.if_icmp .ge 61, 3) := by decide +kernel
theorem d_MO_areTablesRight_16 : decode b_MO_areTablesRight 16 = .ok (.iload_n 1, 1) := by decide +kernel
theorem d_MO_areTablesRight_17 : decode b_MO_areTablesRight 17 = .ok (.ifCond .eq 16, 3) := by decide +kernel
theorem d_MO_areTablesRight_20 : decode b_MO_areTablesRight 20 = .ok (.aload_n 0, 1) := by decide +kernel
theorem d_MO_areTablesRight_21 : decode b_MO_areTablesRight 21 = .ok (.iload_n 2, 1) := by decide +kernel
theorem d_MO_areTablesRight_22 : decode b_MO_areTablesRight 22 = .ok (.iconst 0, 1) := by decide +kernel
theorem d_MO_areTablesRight_23 : decode b_MO_areTablesRight 23 = .ok (.invokestatic 63, 3) := by decide +kernel
theorem d_MO_areTablesRight_26 : decode b_MO_areTablesRight 26 = .ok (.ifCond .eq 7, 3) := by decide +kernel
theorem d_MO_areTablesRight_29 : decode b_MO_areTablesRight 29 = .ok (.iconst 1, 1) := by decide +kernel
theorem d_MO_areTablesRight_30 : decode b_MO_areTablesRight 30 = .ok (.goto 4, 3) := by decide +kernel
theorem d_MO_areTablesRight_33 : decode b_MO_areTablesRight 33 = .ok (.iconst 0, 1) := by decide +kernel
theorem d_MO_areTablesRight_34 : decode b_MO_areTablesRight 34 = .ok (.istore_n 1, 1) := by decide +kernel
theorem d_MO_areTablesRight_35 : decode b_MO_areTablesRight 35 = .ok (.iconst 0, 1) := by decide +kernel
theorem d_MO_areTablesRight_36 : decode b_MO_areTablesRight 36 = .ok (.istore_n 3, 1) := by decide +kernel
theorem d_MO_areTablesRight_37 : decode b_MO_areTablesRight 37 = .ok (.iload_n 3, 1) := by decide +kernel
theorem d_MO_areTablesRight_38 : decode b_MO_areTablesRight 38 = .ok (.iconst 4, 1) := by decide +kernel
theorem d_MO_areTablesRight_39 : decode b_MO_areTablesRight 39 = .ok (.if_icmp .ge 29, 3) := by decide +kernel
theorem d_MO_areTablesRight_42 : decode b_MO_areTablesRight 42 = .ok (.iload_n 1, 1) := by decide +kernel
theorem d_MO_areTablesRight_43 : decode b_MO_areTablesRight 43 = .ok (.ifCond .eq 17, 3) := by decide +kernel
theorem d_MO_areTablesRight_46 : decode b_MO_areTablesRight 46 = .ok (.aload_n 0, 1) := by decide +kernel
theorem d_MO_areTablesRight_47 : decode b_MO_areTablesRight 47 = .ok (.iload_n 2, 1) := by decide +kernel
theorem d_MO_areTablesRight_48 : decode b_MO_areTablesRight 48 = .ok (.iconst 0, 1) := by decide +kernel
theorem d_MO_areTablesRight_49 : decode b_MO_areTablesRight 49 = .ok (.iload_n 3, 1) := by decide +kernel
theorem d_MO_areTablesRight_50 : decode b_MO_areTablesRight 50 = .ok (.invokestatic 43, 3) := by decide +kernel
theorem d_MO_areTablesRight_53 : decode b_MO_areTablesRight 53 = .ok (.ifCond .ne 7, 3) := by decide +kernel
theorem d_MO_areTablesRight_56 : decode b_MO_areTablesRight 56 = .ok (.iconst 1, 1) := by decide +kernel
theorem d_MO_areTablesRight_57 : decode b_MO_areTablesRight 57 = .ok (.goto 4, 3) := by decide +kernel
theorem d_MO_areTablesRight_60 : decode b_MO_areTablesRight 60 = .ok (.iconst 0, 1) := by decide +kernel
theorem d_MO_areTablesRight_61 : decode b_MO_areTablesRight 61 = .ok (.istore_n 1, 1) := by decide +kernel
theorem d_MO_areTablesRight_62 : decode b_MO_areTablesRight 62 = .ok (.iinc 3 1, 3) := by decide +kernel
theorem d_MO_areTablesRight_65 : decode b_MO_areTablesRight 65 = .ok (.goto (-28), 3) := by decide +kernel
theorem d_MO_areTablesRight_68 : decode b_MO_areTablesRight 68 = .ok (.iinc 2 1, 3) := by decide +kernel
theorem d_MO_areTablesRight_71 : decode b_MO_areTablesRight 71 = .ok (.goto (-61), 3) := by decide +kernel
theorem d_MO_areTablesRight_74 : decode b_MO_areTablesRight 74 = .ok (.iload_n 1, 1) := by decide +kernel
theorem d_MO_areTablesRight_75 : decode b_MO_areTablesRight 75 = .ok (.ireturn, 1) := by decide +kernel
set_option maxHeartbeats 4000000 in
set_option maxRecDepth 100000 in
theorem c_MO_areTablesRight (l : Launch) (dC : Nat → ClassId) (dI : Nat → Nat → Nat) (fa : Nat) (cB : ClassId) (f : Nat → Int32) (hL : fm_Len (fm_RB f)) (hne : ∀ p, 2 ≤ p → p < 6 → 0 < fm_WD (fm_RB f) p) : fm_M l (dC, dI) y_MO_areTablesRight w_MO_areTablesRight ({ frames := 5, cells := 0, slots := 0, locals := 112 }) [.ref fa] [(fa, .inl (cB, 8192, .inl (f)))] [(cB, .byte)] ((fm_bI (fm_tables (fm_RB f)))) := by
  refine Met.ofW (cc := b_MO_areTablesRight) (maxL := 4) (ret := (some .boolean)) (by decide) rfl ?_
  intro pg ev s m args below meth cd s₁ BD hml hv
  obtain ⟨rfl, hP, hK⟩ := hv
  have hx := BD.exec
  have hb := BD.bytes
  have hr := BD.returns
  have hts := atoms_spec (ws := w_MO_areTablesRight) BD.pre
  have ht : ∀ w ∈ fm_T, w.before _ s = true := fun w h => hts w (List.mem_cons_of_mem _ h)
  have hown : s.vm.findClass R_MO = some m.cls := findClass_of_methodNamed BD.named
  have hlocks := BD.notSynchronized
  have S : CallFix pg m cd b_MO_areTablesRight 4 s _ w_MO_areTablesRight R_MO := ⟨hx, hb, hml, hown, hts⟩
  have hl := lv_entry ([.ref fa]) (n := 4) (Nat.le_of_ble_eq_true rfl)
  rw [lg_entry_eq]
  generalize (lg_sl ([.ref fa]) ++ List.replicate (4 - (lg_sl ([.ref fa])).length) Slot.unset).toArray = ls at hl ⊢
  have hl : lv_has ls 4 [(0, .ref fa)] := hl
  obtain ⟨-, hq, h3, h10⟩ := id hL
  refine lv_aload_n hx hb d_MO_areTablesRight_0 rfl (lv_at hl 0 rfl) ?_
  refine lv_bipush (v := nI (7)) hx hb d_MO_areTablesRight_1 (by decide) ?_
  refine lv_iconst (v := nI (0)) hx hb d_MO_areTablesRight_3 (by decide) ?_
  refine fm_cs S (c_MO_areFractions l dC dI fa cB f 7 0 (hL) (by omega) (by omega)) rfl rfl k_MO_areFractions q_3_209 ⟨Nat.le_of_ble_eq_true rfl, Nat.le_of_ble_eq_true rfl⟩ (hP.sub [0] rfl) (hK.sub [0] rfl) rfl hl.1 rfl (Nat.le_of_ble_eq_true rfl) ⟨Nat.zero_le _, Nat.zero_le _⟩ d_MO_areTablesRight_4 ?_
  refine lv_istore_n (lv' := [(1, .int (fm_bI (fm_fracs (fm_RB f) 7 0))), (0, .ref fa)]) hx hb d_MO_areTablesRight_7 rfl hl (by decide) rfl (fun ls hl => ?_)
  refine lv_iconst (v := nI (2)) hx hb d_MO_areTablesRight_8 (by decide) ?_
  refine lv_istore_n (lv' := [(2, .int (nI (2))), (1, .int (fm_bI (fm_fracs (fm_RB f) 7 0))), (0, .ref fa)]) hx hb d_MO_areTablesRight_9 rfl hl (by decide) rfl (fun ls hl => ?_)
  rw [show fm_bI (fm_fracs (fm_RB f) 7 0) = fm_bI (fm_fracs (fm_RB f) 7 0 && fm_all 0 (fm_tab1 (fm_RB f))) from fm_bb (Bool.and_true _).symm] at hl
  refine fm_loop1 (LV := fun (j : Nat) => [(0, .ref fa), (1, .int (fm_bI (fm_fracs (fm_RB f) 7 0 && fm_all j (fm_tab1 (fm_RB f))))), (2, .int (nI (j + 2)))]) (I := fun (j : Nat) => j ≤ 4) (μ := fun (j : Nat) => 4 - j) ?_ 0 (by decide) ls (lv_sub hl [2, 1, 0] rfl)
  intro j hI_10 ih_10 ls hl
  have hl : lv_has ls 4 [(0, .ref fa), (1, .int (fm_bI (fm_fracs (fm_RB f) 7 0 && fm_all j (fm_tab1 (fm_RB f))))), (2, .int (nI (j + 2)))] := hl
  refine lv_iload_n hx hb d_MO_areTablesRight_10 rfl (lv_at hl 2 rfl) ?_
  refine lv_bipush (v := nI (6)) hx hb d_MO_areTablesRight_11 (by decide) ?_
  refine lv_icmp_ge (tgt := 74) hx hb d_MO_areTablesRight_13 (by decide) (fun c0 => ?_) (fun c0 => ?_)
  · have c_13 : 6 ≤ j + 2 := (nI_leI (a := 6) (b := j + 2) (by omega) (by omega)).mp c0
    refine lv_iload_n hx hb d_MO_areTablesRight_74 rfl (lv_at hl 1 rfl) ?_
    exact W.zret (ty := .boolean) hx hb hr (fm_bI_z _) (fun t ht hW => ⟨_, rfl, fm_bb (by rw [fm_tables, show j = 4 by omega]), ht⟩) (fun q hq => by cases hq) d_MO_areTablesRight_75
  · have c_13 : ¬ (6 ≤ j + 2) := fun z => c0 ((nI_leI (a := 6) (b := j + 2) (by omega) (by omega)).mpr z)
    refine lv_iload_n hx hb d_MO_areTablesRight_16 rfl (lv_at hl 1 rfl) ?_
    refine lv_if_eq (tgt := 33) hx hb d_MO_areTablesRight_17 (by decide) (fun c0 => ?_) (fun c0 => ?_)
    · have c_17 : (fm_fracs (fm_RB f) 7 0 && fm_all j (fm_tab1 (fm_RB f))) = false := fm_bI_f c0
      refine lv_iconst (v := nI (0)) hx hb d_MO_areTablesRight_33 (by decide) ?_
      refine fm_tw (z := (fm_bI ((fm_fracs (fm_RB f) 7 0 && fm_all j (fm_tab1 (fm_RB f))) && (fm_fracs (fm_RB f) (j + 2) 0 && fm_all 0 (fm_zb (fm_RB f) (j + 2)))))) (by first | exact fm_cF1 c_17 | exact fm_cT c_17 (by rw [c_26]; rfl) | exact fm_cF2 (by rw [c_26]; rfl)) ?_
      refine lv_istore_n (lv' := [(1, .int (fm_bI ((fm_fracs (fm_RB f) 7 0 && fm_all j (fm_tab1 (fm_RB f))) && (fm_fracs (fm_RB f) (j + 2) 0 && fm_all 0 (fm_zb (fm_RB f) (j + 2)))))), (0, .ref fa), (2, .int (nI (j + 2)))]) hx hb d_MO_areTablesRight_34 rfl hl (by decide) rfl (fun ls hl => ?_)
      refine lv_iconst (v := nI (0)) hx hb d_MO_areTablesRight_35 (by decide) ?_
      refine lv_istore_n (lv' := [(3, .int (nI (0))), (1, .int (fm_bI ((fm_fracs (fm_RB f) 7 0 && fm_all j (fm_tab1 (fm_RB f))) && (fm_fracs (fm_RB f) (j + 2) 0 && fm_all 0 (fm_zb (fm_RB f) (j + 2)))))), (0, .ref fa), (2, .int (nI (j + 2)))]) hx hb d_MO_areTablesRight_36 rfl hl (by decide) rfl (fun ls hl => ?_)
      refine fm_loop1 (LV := fun (b : Nat) => [(0, .ref fa), (1, .int (fm_bI ((fm_fracs (fm_RB f) 7 0 && fm_all j (fm_tab1 (fm_RB f))) && (fm_fracs (fm_RB f) (j + 2) 0 && fm_all b (fm_zb (fm_RB f) (j + 2)))))), (2, .int (nI (j + 2))), (3, .int (nI (b)))]) (I := fun (b : Nat) => b ≤ 4) (μ := fun (b : Nat) => 4 - b) ?_ 0 (by decide) ls (lv_sub hl [2, 1, 3, 0] rfl)
      intro b hI_37 ih_37 ls hl
      have hl : lv_has ls 4 [(0, .ref fa), (1, .int (fm_bI ((fm_fracs (fm_RB f) 7 0 && fm_all j (fm_tab1 (fm_RB f))) && (fm_fracs (fm_RB f) (j + 2) 0 && fm_all b (fm_zb (fm_RB f) (j + 2)))))), (2, .int (nI (j + 2))), (3, .int (nI (b)))] := hl
      refine lv_iload_n hx hb d_MO_areTablesRight_37 rfl (lv_at hl 3 rfl) ?_
      refine lv_iconst (v := nI (4)) hx hb d_MO_areTablesRight_38 (by decide) ?_
      refine lv_icmp_ge (tgt := 68) hx hb d_MO_areTablesRight_39 (by decide) (fun c0 => ?_) (fun c0 => ?_)
      · have c_39 : 4 ≤ b := (nI_leI (a := 4) (b := b) (by omega) (by omega)).mp c0
        obtain rfl : b = 4 := by omega
        have hl : lv_has ls 4 [(0, .ref fa), (1, .int (fm_bI ((fm_fracs (fm_RB f) 7 0 && fm_all j (fm_tab1 (fm_RB f))) && (fm_fracs (fm_RB f) (j + 2) 0 && fm_all 4 (fm_zb (fm_RB f) (j + 2)))))), (2, .int (nI (j + 2)))] := lv_sub hl [0, 1, 2] rfl
        rw [show ((fm_bI ((fm_fracs (fm_RB f) 7 0 && fm_all j (fm_tab1 (fm_RB f))) && (fm_fracs (fm_RB f) (j + 2) 0 && fm_all 4 (fm_zb (fm_RB f) (j + 2))))) : Int32) = (fm_bI (fm_fracs (fm_RB f) 7 0 && fm_all (j + 1) (fm_tab1 (fm_RB f)))) from fm_bb (fm_tabs_s _)] at hl
        refine lv_iinc (v := nI (j + 2 + 1)) (lv' := [(2, .int (nI (j + 2 + 1))), (0, .ref fa), (1, .int (fm_bI (fm_fracs (fm_RB f) 7 0 && fm_all (j + 1) (fm_tab1 (fm_RB f)))))]) hx hb d_MO_areTablesRight_68 hl (k := 2) rfl (nI_1 _) (by decide) rfl (fun ls hl => ?_)
        refine lv_goto (tgt := 10) hx hb d_MO_areTablesRight_71 (by decide) ?_
        exact ih_10 (j + 1) ls (by omega) (by omega) (lv_sub hl [1, 2, 0] rfl)
      · have c_39 : ¬ (4 ≤ b) := fun z => c0 ((nI_leI (a := 4) (b := b) (by omega) (by omega)).mpr z)
        have hin := fm_pin hL (p := j + 2) (k := 0) (by omega) (hne _ (by omega) (by omega))
        refine lv_iload_n hx hb d_MO_areTablesRight_42 rfl (lv_at hl 1 rfl) ?_
        refine lv_if_eq (tgt := 60) hx hb d_MO_areTablesRight_43 (by decide) (fun c0 => ?_) (fun c0 => ?_)
        · have c_43 : ((fm_fracs (fm_RB f) 7 0 && fm_all j (fm_tab1 (fm_RB f))) && (fm_fracs (fm_RB f) (j + 2) 0 && fm_all b (fm_zb (fm_RB f) (j + 2)))) = false := fm_bI_f c0
          refine lv_iconst (v := nI (0)) hx hb d_MO_areTablesRight_60 (by decide) ?_
          refine fm_tw (z := (fm_bI ((fm_fracs (fm_RB f) 7 0 && fm_all j (fm_tab1 (fm_RB f))) && (fm_fracs (fm_RB f) (j + 2) 0 && fm_all (b + 1) (fm_zb (fm_RB f) (j + 2)))))) (by first | exact fm_iF1 c_43 | exact fm_iT c_43 (decide_eq_true c_53) | exact fm_iF2 (decide_eq_false c_53)) ?_
          refine lv_istore_n (lv' := [(1, .int (fm_bI ((fm_fracs (fm_RB f) 7 0 && fm_all j (fm_tab1 (fm_RB f))) && (fm_fracs (fm_RB f) (j + 2) 0 && fm_all (b + 1) (fm_zb (fm_RB f) (j + 2)))))), (0, .ref fa), (2, .int (nI (j + 2))), (3, .int (nI (b)))]) hx hb d_MO_areTablesRight_61 rfl hl (by decide) rfl (fun ls hl => ?_)
          refine lv_iinc (v := nI (b + 1)) (lv' := [(3, .int (nI (b + 1))), (1, .int (fm_bI ((fm_fracs (fm_RB f) 7 0 && fm_all j (fm_tab1 (fm_RB f))) && (fm_fracs (fm_RB f) (j + 2) 0 && fm_all (b + 1) (fm_zb (fm_RB f) (j + 2)))))), (0, .ref fa), (2, .int (nI (j + 2)))]) hx hb d_MO_areTablesRight_62 hl (k := 3) rfl (nI_1 _) (by decide) rfl (fun ls hl => ?_)
          refine lv_goto (tgt := 37) hx hb d_MO_areTablesRight_65 (by decide) ?_
          exact ih_37 (b + 1) ls (by omega) (by omega) (lv_sub hl [2, 1, 3, 0] rfl)
        · have c_43 : ((fm_fracs (fm_RB f) 7 0 && fm_all j (fm_tab1 (fm_RB f))) && (fm_fracs (fm_RB f) (j + 2) 0 && fm_all b (fm_zb (fm_RB f) (j + 2)))) = true := fm_bI_t c0
          refine lv_aload_n hx hb d_MO_areTablesRight_46 rfl (lv_at hl 0 rfl) ?_
          refine lv_iload_n hx hb d_MO_areTablesRight_47 rfl (lv_at hl 2 rfl) ?_
          refine lv_iconst (v := nI (0)) hx hb d_MO_areTablesRight_48 (by decide) ?_
          refine lv_iload_n hx hb d_MO_areTablesRight_49 rfl (lv_at hl 3 rfl) ?_
          refine fm_cs S (c_MO_at l dC dI fa cB f (j + 2) 0 b (by omega) (hq) (by omega) (by omega)) rfl rfl k_MO_at q_3_184 ⟨Nat.le_of_ble_eq_true rfl, Nat.le_of_ble_eq_true rfl⟩ (hP.sub [0] rfl) (hK.sub [0] rfl) rfl hl.1 rfl (Nat.le_of_ble_eq_true rfl) ⟨Nat.zero_le _, Nat.zero_le _⟩ d_MO_areTablesRight_50 ?_
          have f0_50 := fm_AT_lt (fm_RB_lt f) (j + 2) 0 b
          refine lv_if_ne (tgt := 60) hx hb d_MO_areTablesRight_53 (by decide) (fun c0 => ?_) (fun c0 => ?_)
          · have c_53 : ¬ (fm_AT (fm_RB f) (j + 2) 0 b = 0) := fun z => c0 ((nI_eq (a := fm_AT (fm_RB f) (j + 2) 0 b) (b := 0) (by omega) (by omega)).mpr z)
            refine lv_iconst (v := nI (0)) hx hb d_MO_areTablesRight_60 (by decide) ?_
            refine fm_tw (z := (fm_bI ((fm_fracs (fm_RB f) 7 0 && fm_all j (fm_tab1 (fm_RB f))) && (fm_fracs (fm_RB f) (j + 2) 0 && fm_all (b + 1) (fm_zb (fm_RB f) (j + 2)))))) (by first | exact fm_iF1 c_43 | exact fm_iT c_43 (decide_eq_true c_53) | exact fm_iF2 (decide_eq_false c_53)) ?_
            refine lv_istore_n (lv' := [(1, .int (fm_bI ((fm_fracs (fm_RB f) 7 0 && fm_all j (fm_tab1 (fm_RB f))) && (fm_fracs (fm_RB f) (j + 2) 0 && fm_all (b + 1) (fm_zb (fm_RB f) (j + 2)))))), (0, .ref fa), (2, .int (nI (j + 2))), (3, .int (nI (b)))]) hx hb d_MO_areTablesRight_61 rfl hl (by decide) rfl (fun ls hl => ?_)
            refine lv_iinc (v := nI (b + 1)) (lv' := [(3, .int (nI (b + 1))), (1, .int (fm_bI ((fm_fracs (fm_RB f) 7 0 && fm_all j (fm_tab1 (fm_RB f))) && (fm_fracs (fm_RB f) (j + 2) 0 && fm_all (b + 1) (fm_zb (fm_RB f) (j + 2)))))), (0, .ref fa), (2, .int (nI (j + 2)))]) hx hb d_MO_areTablesRight_62 hl (k := 3) rfl (nI_1 _) (by decide) rfl (fun ls hl => ?_)
            refine lv_goto (tgt := 37) hx hb d_MO_areTablesRight_65 (by decide) ?_
            exact ih_37 (b + 1) ls (by omega) (by omega) (lv_sub hl [2, 1, 3, 0] rfl)
          · have c_53 : fm_AT (fm_RB f) (j + 2) 0 b = 0 := (nI_eq (a := fm_AT (fm_RB f) (j + 2) 0 b) (b := 0) (by omega) (by omega)).mp c0
            refine lv_iconst (v := nI (1)) hx hb d_MO_areTablesRight_56 (by decide) ?_
            refine lv_goto (tgt := 61) hx hb d_MO_areTablesRight_57 (by decide) ?_
            refine fm_tw (z := (fm_bI ((fm_fracs (fm_RB f) 7 0 && fm_all j (fm_tab1 (fm_RB f))) && (fm_fracs (fm_RB f) (j + 2) 0 && fm_all (b + 1) (fm_zb (fm_RB f) (j + 2)))))) (by first | exact fm_iF1 c_43 | exact fm_iT c_43 (decide_eq_true c_53) | exact fm_iF2 (decide_eq_false c_53)) ?_
            refine lv_istore_n (lv' := [(1, .int (fm_bI ((fm_fracs (fm_RB f) 7 0 && fm_all j (fm_tab1 (fm_RB f))) && (fm_fracs (fm_RB f) (j + 2) 0 && fm_all (b + 1) (fm_zb (fm_RB f) (j + 2)))))), (0, .ref fa), (2, .int (nI (j + 2))), (3, .int (nI (b)))]) hx hb d_MO_areTablesRight_61 rfl hl (by decide) rfl (fun ls hl => ?_)
            refine lv_iinc (v := nI (b + 1)) (lv' := [(3, .int (nI (b + 1))), (1, .int (fm_bI ((fm_fracs (fm_RB f) 7 0 && fm_all j (fm_tab1 (fm_RB f))) && (fm_fracs (fm_RB f) (j + 2) 0 && fm_all (b + 1) (fm_zb (fm_RB f) (j + 2)))))), (0, .ref fa), (2, .int (nI (j + 2)))]) hx hb d_MO_areTablesRight_62 hl (k := 3) rfl (nI_1 _) (by decide) rfl (fun ls hl => ?_)
            refine lv_goto (tgt := 37) hx hb d_MO_areTablesRight_65 (by decide) ?_
            exact ih_37 (b + 1) ls (by omega) (by omega) (lv_sub hl [2, 1, 3, 0] rfl)
    · have c_17 : (fm_fracs (fm_RB f) 7 0 && fm_all j (fm_tab1 (fm_RB f))) = true := fm_bI_t c0
      refine lv_aload_n hx hb d_MO_areTablesRight_20 rfl (lv_at hl 0 rfl) ?_
      refine lv_iload_n hx hb d_MO_areTablesRight_21 rfl (lv_at hl 2 rfl) ?_
      refine lv_iconst (v := nI (0)) hx hb d_MO_areTablesRight_22 (by decide) ?_
      refine fm_cs S (c_MO_areFractions l dC dI fa cB f (j + 2) 0 (hL) (by omega) (by omega)) rfl rfl k_MO_areFractions q_3_209 ⟨Nat.le_of_ble_eq_true rfl, Nat.le_of_ble_eq_true rfl⟩ (hP.sub [0] rfl) (hK.sub [0] rfl) rfl hl.1 rfl (Nat.le_of_ble_eq_true rfl) ⟨Nat.zero_le _, Nat.zero_le _⟩ d_MO_areTablesRight_23 ?_
      refine lv_if_eq (tgt := 33) hx hb d_MO_areTablesRight_26 (by decide) (fun c0 => ?_) (fun c0 => ?_)
      · have c_26 : (fm_fracs (fm_RB f) (j + 2) 0) = false := fm_bI_f c0
        refine lv_iconst (v := nI (0)) hx hb d_MO_areTablesRight_33 (by decide) ?_
        refine fm_tw (z := (fm_bI ((fm_fracs (fm_RB f) 7 0 && fm_all j (fm_tab1 (fm_RB f))) && (fm_fracs (fm_RB f) (j + 2) 0 && fm_all 0 (fm_zb (fm_RB f) (j + 2)))))) (by first | exact fm_cF1 c_17 | exact fm_cT c_17 (by rw [c_26]; rfl) | exact fm_cF2 (by rw [c_26]; rfl)) ?_
        refine lv_istore_n (lv' := [(1, .int (fm_bI ((fm_fracs (fm_RB f) 7 0 && fm_all j (fm_tab1 (fm_RB f))) && (fm_fracs (fm_RB f) (j + 2) 0 && fm_all 0 (fm_zb (fm_RB f) (j + 2)))))), (0, .ref fa), (2, .int (nI (j + 2)))]) hx hb d_MO_areTablesRight_34 rfl hl (by decide) rfl (fun ls hl => ?_)
        refine lv_iconst (v := nI (0)) hx hb d_MO_areTablesRight_35 (by decide) ?_
        refine lv_istore_n (lv' := [(3, .int (nI (0))), (1, .int (fm_bI ((fm_fracs (fm_RB f) 7 0 && fm_all j (fm_tab1 (fm_RB f))) && (fm_fracs (fm_RB f) (j + 2) 0 && fm_all 0 (fm_zb (fm_RB f) (j + 2)))))), (0, .ref fa), (2, .int (nI (j + 2)))]) hx hb d_MO_areTablesRight_36 rfl hl (by decide) rfl (fun ls hl => ?_)
        refine fm_loop1 (LV := fun (b : Nat) => [(0, .ref fa), (1, .int (fm_bI ((fm_fracs (fm_RB f) 7 0 && fm_all j (fm_tab1 (fm_RB f))) && (fm_fracs (fm_RB f) (j + 2) 0 && fm_all b (fm_zb (fm_RB f) (j + 2)))))), (2, .int (nI (j + 2))), (3, .int (nI (b)))]) (I := fun (b : Nat) => b ≤ 4) (μ := fun (b : Nat) => 4 - b) ?_ 0 (by decide) ls (lv_sub hl [2, 1, 3, 0] rfl)
        intro b hI_37 ih_37 ls hl
        have hl : lv_has ls 4 [(0, .ref fa), (1, .int (fm_bI ((fm_fracs (fm_RB f) 7 0 && fm_all j (fm_tab1 (fm_RB f))) && (fm_fracs (fm_RB f) (j + 2) 0 && fm_all b (fm_zb (fm_RB f) (j + 2)))))), (2, .int (nI (j + 2))), (3, .int (nI (b)))] := hl
        refine lv_iload_n hx hb d_MO_areTablesRight_37 rfl (lv_at hl 3 rfl) ?_
        refine lv_iconst (v := nI (4)) hx hb d_MO_areTablesRight_38 (by decide) ?_
        refine lv_icmp_ge (tgt := 68) hx hb d_MO_areTablesRight_39 (by decide) (fun c0 => ?_) (fun c0 => ?_)
        · have c_39 : 4 ≤ b := (nI_leI (a := 4) (b := b) (by omega) (by omega)).mp c0
          obtain rfl : b = 4 := by omega
          have hl : lv_has ls 4 [(0, .ref fa), (1, .int (fm_bI ((fm_fracs (fm_RB f) 7 0 && fm_all j (fm_tab1 (fm_RB f))) && (fm_fracs (fm_RB f) (j + 2) 0 && fm_all 4 (fm_zb (fm_RB f) (j + 2)))))), (2, .int (nI (j + 2)))] := lv_sub hl [0, 1, 2] rfl
          rw [show ((fm_bI ((fm_fracs (fm_RB f) 7 0 && fm_all j (fm_tab1 (fm_RB f))) && (fm_fracs (fm_RB f) (j + 2) 0 && fm_all 4 (fm_zb (fm_RB f) (j + 2))))) : Int32) = (fm_bI (fm_fracs (fm_RB f) 7 0 && fm_all (j + 1) (fm_tab1 (fm_RB f)))) from fm_bb (fm_tabs_s _)] at hl
          refine lv_iinc (v := nI (j + 2 + 1)) (lv' := [(2, .int (nI (j + 2 + 1))), (0, .ref fa), (1, .int (fm_bI (fm_fracs (fm_RB f) 7 0 && fm_all (j + 1) (fm_tab1 (fm_RB f)))))]) hx hb d_MO_areTablesRight_68 hl (k := 2) rfl (nI_1 _) (by decide) rfl (fun ls hl => ?_)
          refine lv_goto (tgt := 10) hx hb d_MO_areTablesRight_71 (by decide) ?_
          exact ih_10 (j + 1) ls (by omega) (by omega) (lv_sub hl [1, 2, 0] rfl)
        · have c_39 : ¬ (4 ≤ b) := fun z => c0 ((nI_leI (a := 4) (b := b) (by omega) (by omega)).mpr z)
          have hin := fm_pin hL (p := j + 2) (k := 0) (by omega) (hne _ (by omega) (by omega))
          refine lv_iload_n hx hb d_MO_areTablesRight_42 rfl (lv_at hl 1 rfl) ?_
          refine lv_if_eq (tgt := 60) hx hb d_MO_areTablesRight_43 (by decide) (fun c0 => ?_) (fun c0 => ?_)
          · have c_43 : ((fm_fracs (fm_RB f) 7 0 && fm_all j (fm_tab1 (fm_RB f))) && (fm_fracs (fm_RB f) (j + 2) 0 && fm_all b (fm_zb (fm_RB f) (j + 2)))) = false := fm_bI_f c0
            refine lv_iconst (v := nI (0)) hx hb d_MO_areTablesRight_60 (by decide) ?_
            refine fm_tw (z := (fm_bI ((fm_fracs (fm_RB f) 7 0 && fm_all j (fm_tab1 (fm_RB f))) && (fm_fracs (fm_RB f) (j + 2) 0 && fm_all (b + 1) (fm_zb (fm_RB f) (j + 2)))))) (by first | exact fm_iF1 c_43 | exact fm_iT c_43 (decide_eq_true c_53) | exact fm_iF2 (decide_eq_false c_53)) ?_
            refine lv_istore_n (lv' := [(1, .int (fm_bI ((fm_fracs (fm_RB f) 7 0 && fm_all j (fm_tab1 (fm_RB f))) && (fm_fracs (fm_RB f) (j + 2) 0 && fm_all (b + 1) (fm_zb (fm_RB f) (j + 2)))))), (0, .ref fa), (2, .int (nI (j + 2))), (3, .int (nI (b)))]) hx hb d_MO_areTablesRight_61 rfl hl (by decide) rfl (fun ls hl => ?_)
            refine lv_iinc (v := nI (b + 1)) (lv' := [(3, .int (nI (b + 1))), (1, .int (fm_bI ((fm_fracs (fm_RB f) 7 0 && fm_all j (fm_tab1 (fm_RB f))) && (fm_fracs (fm_RB f) (j + 2) 0 && fm_all (b + 1) (fm_zb (fm_RB f) (j + 2)))))), (0, .ref fa), (2, .int (nI (j + 2)))]) hx hb d_MO_areTablesRight_62 hl (k := 3) rfl (nI_1 _) (by decide) rfl (fun ls hl => ?_)
            refine lv_goto (tgt := 37) hx hb d_MO_areTablesRight_65 (by decide) ?_
            exact ih_37 (b + 1) ls (by omega) (by omega) (lv_sub hl [2, 1, 3, 0] rfl)
          · have c_43 : ((fm_fracs (fm_RB f) 7 0 && fm_all j (fm_tab1 (fm_RB f))) && (fm_fracs (fm_RB f) (j + 2) 0 && fm_all b (fm_zb (fm_RB f) (j + 2)))) = true := fm_bI_t c0
            refine lv_aload_n hx hb d_MO_areTablesRight_46 rfl (lv_at hl 0 rfl) ?_
            refine lv_iload_n hx hb d_MO_areTablesRight_47 rfl (lv_at hl 2 rfl) ?_
            refine lv_iconst (v := nI (0)) hx hb d_MO_areTablesRight_48 (by decide) ?_
            refine lv_iload_n hx hb d_MO_areTablesRight_49 rfl (lv_at hl 3 rfl) ?_
            refine fm_cs S (c_MO_at l dC dI fa cB f (j + 2) 0 b (by omega) (hq) (by omega) (by omega)) rfl rfl k_MO_at q_3_184 ⟨Nat.le_of_ble_eq_true rfl, Nat.le_of_ble_eq_true rfl⟩ (hP.sub [0] rfl) (hK.sub [0] rfl) rfl hl.1 rfl (Nat.le_of_ble_eq_true rfl) ⟨Nat.zero_le _, Nat.zero_le _⟩ d_MO_areTablesRight_50 ?_
            have f0_50 := fm_AT_lt (fm_RB_lt f) (j + 2) 0 b
            refine lv_if_ne (tgt := 60) hx hb d_MO_areTablesRight_53 (by decide) (fun c0 => ?_) (fun c0 => ?_)
            · have c_53 : ¬ (fm_AT (fm_RB f) (j + 2) 0 b = 0) := fun z => c0 ((nI_eq (a := fm_AT (fm_RB f) (j + 2) 0 b) (b := 0) (by omega) (by omega)).mpr z)
              refine lv_iconst (v := nI (0)) hx hb d_MO_areTablesRight_60 (by decide) ?_
              refine fm_tw (z := (fm_bI ((fm_fracs (fm_RB f) 7 0 && fm_all j (fm_tab1 (fm_RB f))) && (fm_fracs (fm_RB f) (j + 2) 0 && fm_all (b + 1) (fm_zb (fm_RB f) (j + 2)))))) (by first | exact fm_iF1 c_43 | exact fm_iT c_43 (decide_eq_true c_53) | exact fm_iF2 (decide_eq_false c_53)) ?_
              refine lv_istore_n (lv' := [(1, .int (fm_bI ((fm_fracs (fm_RB f) 7 0 && fm_all j (fm_tab1 (fm_RB f))) && (fm_fracs (fm_RB f) (j + 2) 0 && fm_all (b + 1) (fm_zb (fm_RB f) (j + 2)))))), (0, .ref fa), (2, .int (nI (j + 2))), (3, .int (nI (b)))]) hx hb d_MO_areTablesRight_61 rfl hl (by decide) rfl (fun ls hl => ?_)
              refine lv_iinc (v := nI (b + 1)) (lv' := [(3, .int (nI (b + 1))), (1, .int (fm_bI ((fm_fracs (fm_RB f) 7 0 && fm_all j (fm_tab1 (fm_RB f))) && (fm_fracs (fm_RB f) (j + 2) 0 && fm_all (b + 1) (fm_zb (fm_RB f) (j + 2)))))), (0, .ref fa), (2, .int (nI (j + 2)))]) hx hb d_MO_areTablesRight_62 hl (k := 3) rfl (nI_1 _) (by decide) rfl (fun ls hl => ?_)
              refine lv_goto (tgt := 37) hx hb d_MO_areTablesRight_65 (by decide) ?_
              exact ih_37 (b + 1) ls (by omega) (by omega) (lv_sub hl [2, 1, 3, 0] rfl)
            · have c_53 : fm_AT (fm_RB f) (j + 2) 0 b = 0 := (nI_eq (a := fm_AT (fm_RB f) (j + 2) 0 b) (b := 0) (by omega) (by omega)).mp c0
              refine lv_iconst (v := nI (1)) hx hb d_MO_areTablesRight_56 (by decide) ?_
              refine lv_goto (tgt := 61) hx hb d_MO_areTablesRight_57 (by decide) ?_
              refine fm_tw (z := (fm_bI ((fm_fracs (fm_RB f) 7 0 && fm_all j (fm_tab1 (fm_RB f))) && (fm_fracs (fm_RB f) (j + 2) 0 && fm_all (b + 1) (fm_zb (fm_RB f) (j + 2)))))) (by first | exact fm_iF1 c_43 | exact fm_iT c_43 (decide_eq_true c_53) | exact fm_iF2 (decide_eq_false c_53)) ?_
              refine lv_istore_n (lv' := [(1, .int (fm_bI ((fm_fracs (fm_RB f) 7 0 && fm_all j (fm_tab1 (fm_RB f))) && (fm_fracs (fm_RB f) (j + 2) 0 && fm_all (b + 1) (fm_zb (fm_RB f) (j + 2)))))), (0, .ref fa), (2, .int (nI (j + 2))), (3, .int (nI (b)))]) hx hb d_MO_areTablesRight_61 rfl hl (by decide) rfl (fun ls hl => ?_)
              refine lv_iinc (v := nI (b + 1)) (lv' := [(3, .int (nI (b + 1))), (1, .int (fm_bI ((fm_fracs (fm_RB f) 7 0 && fm_all j (fm_tab1 (fm_RB f))) && (fm_fracs (fm_RB f) (j + 2) 0 && fm_all (b + 1) (fm_zb (fm_RB f) (j + 2)))))), (0, .ref fa), (2, .int (nI (j + 2)))]) hx hb d_MO_areTablesRight_62 hl (k := 3) rfl (nI_1 _) (by decide) rfl (fun ls hl => ?_)
              refine lv_goto (tgt := 37) hx hb d_MO_areTablesRight_65 (by decide) ?_
              exact ih_37 (b + 1) ls (by omega) (by omega) (lv_sub hl [2, 1, 3, 0] rfl)
      · have c_26 : (fm_fracs (fm_RB f) (j + 2) 0) = true := fm_bI_t c0
        refine lv_iconst (v := nI (1)) hx hb d_MO_areTablesRight_29 (by decide) ?_
        refine lv_goto (tgt := 34) hx hb d_MO_areTablesRight_30 (by decide) ?_
        refine fm_tw (z := (fm_bI ((fm_fracs (fm_RB f) 7 0 && fm_all j (fm_tab1 (fm_RB f))) && (fm_fracs (fm_RB f) (j + 2) 0 && fm_all 0 (fm_zb (fm_RB f) (j + 2)))))) (by first | exact fm_cF1 c_17 | exact fm_cT c_17 (by rw [c_26]; rfl) | exact fm_cF2 (by rw [c_26]; rfl)) ?_
        refine lv_istore_n (lv' := [(1, .int (fm_bI ((fm_fracs (fm_RB f) 7 0 && fm_all j (fm_tab1 (fm_RB f))) && (fm_fracs (fm_RB f) (j + 2) 0 && fm_all 0 (fm_zb (fm_RB f) (j + 2)))))), (0, .ref fa), (2, .int (nI (j + 2)))]) hx hb d_MO_areTablesRight_34 rfl hl (by decide) rfl (fun ls hl => ?_)
        refine lv_iconst (v := nI (0)) hx hb d_MO_areTablesRight_35 (by decide) ?_
        refine lv_istore_n (lv' := [(3, .int (nI (0))), (1, .int (fm_bI ((fm_fracs (fm_RB f) 7 0 && fm_all j (fm_tab1 (fm_RB f))) && (fm_fracs (fm_RB f) (j + 2) 0 && fm_all 0 (fm_zb (fm_RB f) (j + 2)))))), (0, .ref fa), (2, .int (nI (j + 2)))]) hx hb d_MO_areTablesRight_36 rfl hl (by decide) rfl (fun ls hl => ?_)
        refine fm_loop1 (LV := fun (b : Nat) => [(0, .ref fa), (1, .int (fm_bI ((fm_fracs (fm_RB f) 7 0 && fm_all j (fm_tab1 (fm_RB f))) && (fm_fracs (fm_RB f) (j + 2) 0 && fm_all b (fm_zb (fm_RB f) (j + 2)))))), (2, .int (nI (j + 2))), (3, .int (nI (b)))]) (I := fun (b : Nat) => b ≤ 4) (μ := fun (b : Nat) => 4 - b) ?_ 0 (by decide) ls (lv_sub hl [2, 1, 3, 0] rfl)
        intro b hI_37 ih_37 ls hl
        have hl : lv_has ls 4 [(0, .ref fa), (1, .int (fm_bI ((fm_fracs (fm_RB f) 7 0 && fm_all j (fm_tab1 (fm_RB f))) && (fm_fracs (fm_RB f) (j + 2) 0 && fm_all b (fm_zb (fm_RB f) (j + 2)))))), (2, .int (nI (j + 2))), (3, .int (nI (b)))] := hl
        refine lv_iload_n hx hb d_MO_areTablesRight_37 rfl (lv_at hl 3 rfl) ?_
        refine lv_iconst (v := nI (4)) hx hb d_MO_areTablesRight_38 (by decide) ?_
        refine lv_icmp_ge (tgt := 68) hx hb d_MO_areTablesRight_39 (by decide) (fun c0 => ?_) (fun c0 => ?_)
        · have c_39 : 4 ≤ b := (nI_leI (a := 4) (b := b) (by omega) (by omega)).mp c0
          obtain rfl : b = 4 := by omega
          have hl : lv_has ls 4 [(0, .ref fa), (1, .int (fm_bI ((fm_fracs (fm_RB f) 7 0 && fm_all j (fm_tab1 (fm_RB f))) && (fm_fracs (fm_RB f) (j + 2) 0 && fm_all 4 (fm_zb (fm_RB f) (j + 2)))))), (2, .int (nI (j + 2)))] := lv_sub hl [0, 1, 2] rfl
          rw [show ((fm_bI ((fm_fracs (fm_RB f) 7 0 && fm_all j (fm_tab1 (fm_RB f))) && (fm_fracs (fm_RB f) (j + 2) 0 && fm_all 4 (fm_zb (fm_RB f) (j + 2))))) : Int32) = (fm_bI (fm_fracs (fm_RB f) 7 0 && fm_all (j + 1) (fm_tab1 (fm_RB f)))) from fm_bb (fm_tabs_s _)] at hl
          refine lv_iinc (v := nI (j + 2 + 1)) (lv' := [(2, .int (nI (j + 2 + 1))), (0, .ref fa), (1, .int (fm_bI (fm_fracs (fm_RB f) 7 0 && fm_all (j + 1) (fm_tab1 (fm_RB f)))))]) hx hb d_MO_areTablesRight_68 hl (k := 2) rfl (nI_1 _) (by decide) rfl (fun ls hl => ?_)
          refine lv_goto (tgt := 10) hx hb d_MO_areTablesRight_71 (by decide) ?_
          exact ih_10 (j + 1) ls (by omega) (by omega) (lv_sub hl [1, 2, 0] rfl)
        · have c_39 : ¬ (4 ≤ b) := fun z => c0 ((nI_leI (a := 4) (b := b) (by omega) (by omega)).mpr z)
          have hin := fm_pin hL (p := j + 2) (k := 0) (by omega) (hne _ (by omega) (by omega))
          refine lv_iload_n hx hb d_MO_areTablesRight_42 rfl (lv_at hl 1 rfl) ?_
          refine lv_if_eq (tgt := 60) hx hb d_MO_areTablesRight_43 (by decide) (fun c0 => ?_) (fun c0 => ?_)
          · have c_43 : ((fm_fracs (fm_RB f) 7 0 && fm_all j (fm_tab1 (fm_RB f))) && (fm_fracs (fm_RB f) (j + 2) 0 && fm_all b (fm_zb (fm_RB f) (j + 2)))) = false := fm_bI_f c0
            refine lv_iconst (v := nI (0)) hx hb d_MO_areTablesRight_60 (by decide) ?_
            refine fm_tw (z := (fm_bI ((fm_fracs (fm_RB f) 7 0 && fm_all j (fm_tab1 (fm_RB f))) && (fm_fracs (fm_RB f) (j + 2) 0 && fm_all (b + 1) (fm_zb (fm_RB f) (j + 2)))))) (by first | exact fm_iF1 c_43 | exact fm_iT c_43 (decide_eq_true c_53) | exact fm_iF2 (decide_eq_false c_53)) ?_
            refine lv_istore_n (lv' := [(1, .int (fm_bI ((fm_fracs (fm_RB f) 7 0 && fm_all j (fm_tab1 (fm_RB f))) && (fm_fracs (fm_RB f) (j + 2) 0 && fm_all (b + 1) (fm_zb (fm_RB f) (j + 2)))))), (0, .ref fa), (2, .int (nI (j + 2))), (3, .int (nI (b)))]) hx hb d_MO_areTablesRight_61 rfl hl (by decide) rfl (fun ls hl => ?_)
            refine lv_iinc (v := nI (b + 1)) (lv' := [(3, .int (nI (b + 1))), (1, .int (fm_bI ((fm_fracs (fm_RB f) 7 0 && fm_all j (fm_tab1 (fm_RB f))) && (fm_fracs (fm_RB f) (j + 2) 0 && fm_all (b + 1) (fm_zb (fm_RB f) (j + 2)))))), (0, .ref fa), (2, .int (nI (j + 2)))]) hx hb d_MO_areTablesRight_62 hl (k := 3) rfl (nI_1 _) (by decide) rfl (fun ls hl => ?_)
            refine lv_goto (tgt := 37) hx hb d_MO_areTablesRight_65 (by decide) ?_
            exact ih_37 (b + 1) ls (by omega) (by omega) (lv_sub hl [2, 1, 3, 0] rfl)
          · have c_43 : ((fm_fracs (fm_RB f) 7 0 && fm_all j (fm_tab1 (fm_RB f))) && (fm_fracs (fm_RB f) (j + 2) 0 && fm_all b (fm_zb (fm_RB f) (j + 2)))) = true := fm_bI_t c0
            refine lv_aload_n hx hb d_MO_areTablesRight_46 rfl (lv_at hl 0 rfl) ?_
            refine lv_iload_n hx hb d_MO_areTablesRight_47 rfl (lv_at hl 2 rfl) ?_
            refine lv_iconst (v := nI (0)) hx hb d_MO_areTablesRight_48 (by decide) ?_
            refine lv_iload_n hx hb d_MO_areTablesRight_49 rfl (lv_at hl 3 rfl) ?_
            refine fm_cs S (c_MO_at l dC dI fa cB f (j + 2) 0 b (by omega) (hq) (by omega) (by omega)) rfl rfl k_MO_at q_3_184 ⟨Nat.le_of_ble_eq_true rfl, Nat.le_of_ble_eq_true rfl⟩ (hP.sub [0] rfl) (hK.sub [0] rfl) rfl hl.1 rfl (Nat.le_of_ble_eq_true rfl) ⟨Nat.zero_le _, Nat.zero_le _⟩ d_MO_areTablesRight_50 ?_
            have f0_50 := fm_AT_lt (fm_RB_lt f) (j + 2) 0 b
            refine lv_if_ne (tgt := 60) hx hb d_MO_areTablesRight_53 (by decide) (fun c0 => ?_) (fun c0 => ?_)
            · have c_53 : ¬ (fm_AT (fm_RB f) (j + 2) 0 b = 0) := fun z => c0 ((nI_eq (a := fm_AT (fm_RB f) (j + 2) 0 b) (b := 0) (by omega) (by omega)).mpr z)
              refine lv_iconst (v := nI (0)) hx hb d_MO_areTablesRight_60 (by decide) ?_
              refine fm_tw (z := (fm_bI ((fm_fracs (fm_RB f) 7 0 && fm_all j (fm_tab1 (fm_RB f))) && (fm_fracs (fm_RB f) (j + 2) 0 && fm_all (b + 1) (fm_zb (fm_RB f) (j + 2)))))) (by first | exact fm_iF1 c_43 | exact fm_iT c_43 (decide_eq_true c_53) | exact fm_iF2 (decide_eq_false c_53)) ?_
              refine lv_istore_n (lv' := [(1, .int (fm_bI ((fm_fracs (fm_RB f) 7 0 && fm_all j (fm_tab1 (fm_RB f))) && (fm_fracs (fm_RB f) (j + 2) 0 && fm_all (b + 1) (fm_zb (fm_RB f) (j + 2)))))), (0, .ref fa), (2, .int (nI (j + 2))), (3, .int (nI (b)))]) hx hb d_MO_areTablesRight_61 rfl hl (by decide) rfl (fun ls hl => ?_)
              refine lv_iinc (v := nI (b + 1)) (lv' := [(3, .int (nI (b + 1))), (1, .int (fm_bI ((fm_fracs (fm_RB f) 7 0 && fm_all j (fm_tab1 (fm_RB f))) && (fm_fracs (fm_RB f) (j + 2) 0 && fm_all (b + 1) (fm_zb (fm_RB f) (j + 2)))))), (0, .ref fa), (2, .int (nI (j + 2)))]) hx hb d_MO_areTablesRight_62 hl (k := 3) rfl (nI_1 _) (by decide) rfl (fun ls hl => ?_)
              refine lv_goto (tgt := 37) hx hb d_MO_areTablesRight_65 (by decide) ?_
              exact ih_37 (b + 1) ls (by omega) (by omega) (lv_sub hl [2, 1, 3, 0] rfl)
            · have c_53 : fm_AT (fm_RB f) (j + 2) 0 b = 0 := (nI_eq (a := fm_AT (fm_RB f) (j + 2) 0 b) (b := 0) (by omega) (by omega)).mp c0
              refine lv_iconst (v := nI (1)) hx hb d_MO_areTablesRight_56 (by decide) ?_
              refine lv_goto (tgt := 61) hx hb d_MO_areTablesRight_57 (by decide) ?_
              refine fm_tw (z := (fm_bI ((fm_fracs (fm_RB f) 7 0 && fm_all j (fm_tab1 (fm_RB f))) && (fm_fracs (fm_RB f) (j + 2) 0 && fm_all (b + 1) (fm_zb (fm_RB f) (j + 2)))))) (by first | exact fm_iF1 c_43 | exact fm_iT c_43 (decide_eq_true c_53) | exact fm_iF2 (decide_eq_false c_53)) ?_
              refine lv_istore_n (lv' := [(1, .int (fm_bI ((fm_fracs (fm_RB f) 7 0 && fm_all j (fm_tab1 (fm_RB f))) && (fm_fracs (fm_RB f) (j + 2) 0 && fm_all (b + 1) (fm_zb (fm_RB f) (j + 2)))))), (0, .ref fa), (2, .int (nI (j + 2))), (3, .int (nI (b)))]) hx hb d_MO_areTablesRight_61 rfl hl (by decide) rfl (fun ls hl => ?_)
              refine lv_iinc (v := nI (b + 1)) (lv' := [(3, .int (nI (b + 1))), (1, .int (fm_bI ((fm_fracs (fm_RB f) 7 0 && fm_all j (fm_tab1 (fm_RB f))) && (fm_fracs (fm_RB f) (j + 2) 0 && fm_all (b + 1) (fm_zb (fm_RB f) (j + 2)))))), (0, .ref fa), (2, .int (nI (j + 2)))]) hx hb d_MO_areTablesRight_62 hl (k := 3) rfl (nI_1 _) (by decide) rfl (fun ls hl => ?_)
              refine lv_goto (tgt := 37) hx hb d_MO_areTablesRight_65 (by decide) ?_
              exact ih_37 (b + 1) ls (by omega) (by omega) (lv_sub hl [2, 1, 3, 0] rfl)
theorem d_MO_isWordRight_0 : decode b_MO_isWordRight 0 = .ok (.aload_n 0, 1) := by decide +kernel
theorem d_MO_isWordRight_1 : decode b_MO_isWordRight 1 = .ok (.bipush 6, 2) := by decide +kernel
theorem d_MO_isWordRight_3 : decode b_MO_isWordRight 3 = .ok (.iload_n 1, 1) := by decide +kernel
theorem d_MO_isWordRight_4 : decode b_MO_isWordRight 4 = .ok (.iconst 0, 1) := by decide +kernel
theorem d_MO_isWordRight_5 : decode b_MO_isWordRight 5 = .ok (.invokestatic 43, 3) := by decide +kernel
theorem d_MO_isWordRight_8 : decode b_MO_isWordRight 8 = .ok (.istore_n 2, 1) := by decide +kernel
theorem d_MO_isWordRight_9 : decode b_MO_isWordRight 9 = .ok (.iload_n 2, 1) := by decide +kernel
theorem d_MO_isWordRight_10 : decode b_MO_isWordRight 10 = .ok (.sipush 128, 3) := by decide +kernel
theorem d_MO_isWordRight_13 : decode b_MO_isWordRight 13 = .ok (.if_icmp .le 23, 3) := by decide +kernel
theorem d_MO_isWordRight_16 : decode b_MO_isWordRight 16 = .ok (.aload_n 0, 1) := by decide +kernel
theorem d_MO_isWordRight_17 : decode b_MO_isWordRight 17 = .ok (.iload_n 1, 1) := by decide +kernel
theorem d_MO_isWordRight_18 : decode b_MO_isWordRight 18 = .ok (.invokestatic 47, 3) := by decide +kernel
theorem d_MO_isWordRight_21 : decode b_MO_isWordRight 21 = .ok (.aload_n 0, 1) := by decide +kernel
theorem d_MO_isWordRight_22 : decode b_MO_isWordRight 22 = .ok (.bipush 6, 2) := by decide +kernel
theorem d_MO_isWordRight_24 : decode b_MO_isWordRight 24 = .ok (.invokestatic 37, 3) := by decide +kernel
theorem d_MO_isWordRight_27 : decode b_MO_isWordRight 27 = .ok (.if_icmp .ge 7, 3) := by decide +kernel
theorem d_MO_isWordRight_30 : decode b_MO_isWordRight 30 = .ok (.iconst 1, 1) := by decide +kernel
theorem d_MO_isWordRight_31 : decode b_MO_isWordRight 31 = .ok (.goto 4, 3) := by decide +kernel
theorem d_MO_isWordRight_34 : decode b_MO_isWordRight 34 = .ok (.iconst 0, 1) := by decide +kernel
theorem d_MO_isWordRight_35 : decode b_MO_isWordRight 35 = .ok (.ireturn, 1) := by decide +kernel
theorem d_MO_isWordRight_36 : decode b_MO_isWordRight 36 = .ok (.aload_n 0, 1) := by decide +kernel
theorem d_MO_isWordRight_37 : decode b_MO_isWordRight 37 = .ok (.bipush 6, 2) := by decide +kernel
theorem d_MO_isWordRight_39 : decode b_MO_isWordRight 39 = .ok (.iload_n 1, 1) := by decide +kernel
theorem d_MO_isWordRight_40 : decode b_MO_isWordRight 40 = .ok (.iconst 1, 1) := by decide +kernel
theorem d_MO_isWordRight_41 : decode b_MO_isWordRight 41 = .ok (.invokestatic 43, 3) := by decide +kernel
theorem d_MO_isWordRight_44 : decode b_MO_isWordRight 44 = .ok (.istore_n 3, 1) := by decide +kernel
theorem d_MO_isWordRight_45 : decode b_MO_isWordRight 45 = .ok (.aload_n 0, 1) := by decide +kernel
theorem d_MO_isWordRight_46 : decode b_MO_isWordRight 46 = .ok (.bipush 6, 2) := by decide +kernel
theorem d_MO_isWordRight_48 : decode b_MO_isWordRight 48 = .ok (.iload_n 1, 1) := by decide +kernel
theorem d_MO_isWordRight_49 : decode b_MO_isWordRight 49 = .ok (.iconst 2, 1) := by decide +kernel
theorem d_MO_isWordRight_50 : decode b_MO_isWordRight 50 = .ok (.invokestatic 43, 3) := by decide +kernel
theorem d_MO_isWordRight_53 : decode b_MO_isWordRight 53 = .ok (.istore 4, 2) := by decide +kernel
theorem d_MO_isWordRight_55 : decode b_MO_isWordRight 55 = .ok (.aload_n 0, 1) := by decide +kernel
theorem d_MO_isWordRight_56 : decode b_MO_isWordRight 56 = .ok (.bipush 6, 2) := by decide +kernel
theorem d_MO_isWordRight_58 : decode b_MO_isWordRight 58 = .ok (.iload_n 1, 1) := by decide +kernel
theorem d_MO_isWordRight_59 : decode b_MO_isWordRight 59 = .ok (.iconst 3, 1) := by decide +kernel
theorem d_MO_isWordRight_60 : decode b_MO_isWordRight 60 = .ok (.invokestatic 43, 3) := by decide +kernel
theorem d_MO_isWordRight_63 : decode b_MO_isWordRight 63 = .ok (.istore 5, 2) := by decide +kernel
theorem d_MO_isWordRight_65 : decode b_MO_isWordRight 65 = .ok (.aload_n 0, 1) := by decide +kernel
theorem d_MO_isWordRight_66 : decode b_MO_isWordRight 66 = .ok (.iload_n 3, 1) := by decide +kernel
theorem d_MO_isWordRight_67 : decode b_MO_isWordRight 67 = .ok (.invokestatic 53, 3) := by decide +kernel
theorem d_MO_isWordRight_70 : decode b_MO_isWordRight 70 = .ok (.ifCond .ne 11, 3) := by decide +kernel
theorem d_MO_isWordRight_73 : decode b_MO_isWordRight 73 = .ok (.iload_n 3, 1) := by decide +kernel
theorem d_MO_isWordRight_74 : decode b_MO_isWordRight 74 = .ok (.aload_n 0, 1) := by decide +kernel
theorem d_MO_isWordRight_75 : decode b_MO_isWordRight 75 = .ok (.invokestatic 67, 3) := by decide +kernel
theorem d_MO_isWordRight_78 : decode b_MO_isWordRight 78 = .ok (.if_icmp .ne 7, 3) := by decide +kernel
theorem d_MO_isWordRight_81 : decode b_MO_isWordRight 81 = .ok (.iconst 1, 1) := by decide +kernel
theorem d_MO_isWordRight_82 : decode b_MO_isWordRight 82 = .ok (.goto 4, 3) := by decide +kernel
theorem d_MO_isWordRight_85 : decode b_MO_isWordRight 85 = .ok (.iconst 0, 1) := by decide +kernel
theorem d_MO_isWordRight_86 : decode b_MO_isWordRight 86 = .ok (.istore 6, 2) := by decide +kernel
theorem d_MO_isWordRight_88 : decode b_MO_isWordRight 88 = .ok (.iload 6, 2) := by decide +kernel
theorem d_MO_isWordRight_90 : decode b_MO_isWordRight 90 = .ok (.ifCond .eq 49, 3) := by decide +kernel
theorem d_MO_isWordRight_93 : decode b_MO_isWordRight 93 = .ok (.iload 4, 2) := by decide +kernel
theorem d_MO_isWordRight_95 : decode b_MO_isWordRight 95 = .ok (.sipush 128, 3) := by decide +kernel
theorem d_MO_isWordRight_98 : decode b_MO_isWordRight 98 = .ok (.if_icmp .ge 15, 3) := by decide +kernel
theorem d_MO_isWordRight_101 : decode b_MO_isWordRight 101 = .ok (.aload_n 0, 1) := by decide +kernel
theorem d_MO_isWordRight_102 : decode b_MO_isWordRight 102 = .ok (.iload 5, 2) := by decide +kernel
theorem d_MO_isWordRight_104 : decode b_MO_isWordRight 104 = .ok (.invokestatic 53, 3) := by decide +kernel
theorem d_MO_isWordRight_107 : decode b_MO_isWordRight 107 = .ok (.ifCond .eq 32, 3) := by decide +kernel
theorem d_MO_isWordRight_110 : decode b_MO_isWordRight 110 = .ok (.goto 25, 3) := by decide +kernel
theorem d_MO_isWordRight_113 : decode b_MO_isWordRight 113 = .ok (.sipush 256, 3) := by decide +kernel
theorem d_MO_isWordRight_116 : decode b_MO_isWordRight 116 = .ok (.iload 4, 2) := by decide +kernel
theorem d_MO_isWordRight_118 : decode b_MO_isWordRight 118 = .ok (.sipush 128, 3) := by decide +kernel
theorem d_MO_isWordRight_121 : decode b_MO_isWordRight 121 = .ok (.isub, 1) := by decide +kernel
theorem d_MO_isWordRight_122 : decode b_MO_isWordRight 122 = .ok (.imul, 1) := by decide +kernel
theorem d_MO_isWordRight_123 : decode b_MO_isWordRight 123 = .ok (.iload 5, 2) := by decide +kernel
theorem d_MO_isWordRight_125 : decode b_MO_isWordRight 125 = .ok (.iadd, 1) := by decide +kernel
theorem d_MO_isWordRight_126 : decode b_MO_isWordRight 126 = .ok (.aload_n 0, 1) := by decide +kernel
theorem d_MO_isWordRight_127 : decode b_MO_isWordRight 127 = .ok (.bipush 7, 2) := by decide +kernel
theorem d_MO_isWordRight_129 : decode b_MO_isWordRight 129 = .ok (.invokestatic 37, 3) := by decide +kernel
theorem d_MO_isWordRight_132 : decode b_MO_isWordRight 132 = .ok (.if_icmp .ge 7, 3) := by decide +kernel
theorem d_MO_isWordRight_135 : decode b_MO_isWordRight 135 = .ok (.iconst 1, 1) := by decide +kernel
theorem d_MO_isWordRight_136 : decode b_MO_isWordRight 136 = .ok (.goto 4, 3) := by decide +kernel
theorem d_MO_isWordRight_139 : decode b_MO_isWordRight 139 = .ok (.iconst 0, 1) := by decide +kernel
theorem d_MO_isWordRight_140 : decode b_MO_isWordRight 140 = .ok (.istore 6, 2) := by decide +kernel
theorem d_MO_isWordRight_142 : decode b_MO_isWordRight 142 = .ok (.iload 6, 2) := by decide +kernel
theorem d_MO_isWordRight_144 : decode b_MO_isWordRight 144 = .ok (.ifCond .eq 28, 3) := by decide +kernel
theorem d_MO_isWordRight_147 : decode b_MO_isWordRight 147 = .ok (.iload_n 2, 1) := by decide +kernel
theorem d_MO_isWordRight_148 : decode b_MO_isWordRight 148 = .ok (.sipush 128, 3) := by decide +kernel
theorem d_MO_isWordRight_151 : decode b_MO_isWordRight 151 = .ok (.if_icmp .eq 17, 3) := by decide +kernel
theorem d_MO_isWordRight_154 : decode b_MO_isWordRight 154 = .ok (.iload_n 1, 1) := by decide +kernel
theorem d_MO_isWordRight_155 : decode b_MO_isWordRight 155 = .ok (.iload_n 2, 1) := by decide +kernel
theorem d_MO_isWordRight_156 : decode b_MO_isWordRight 156 = .ok (.iadd, 1) := by decide +kernel
theorem d_MO_isWordRight_157 : decode b_MO_isWordRight 157 = .ok (.iconst 1, 1) := by decide +kernel
theorem d_MO_isWordRight_158 : decode b_MO_isWordRight 158 = .ok (.iadd, 1) := by decide +kernel
theorem d_MO_isWordRight_159 : decode b_MO_isWordRight 159 = .ok (.aload_n 0, 1) := by decide +kernel
theorem d_MO_isWordRight_160 : decode b_MO_isWordRight 160 = .ok (.bipush 6, 2) := by decide +kernel
theorem d_MO_isWordRight_162 : decode b_MO_isWordRight 162 = .ok (.invokestatic 37, 3) := by decide +kernel
theorem d_MO_isWordRight_165 : decode b_MO_isWordRight 165 = .ok (.if_icmp .ge 7, 3) := by decide +kernel
theorem d_MO_isWordRight_168 : decode b_MO_isWordRight 168 = .ok (.iconst 1, 1) := by decide +kernel
theorem d_MO_isWordRight_169 : decode b_MO_isWordRight 169 = .ok (.goto 4, 3) := by decide +kernel
theorem d_MO_isWordRight_172 : decode b_MO_isWordRight 172 = .ok (.iconst 0, 1) := by decide +kernel
theorem d_MO_isWordRight_173 : decode b_MO_isWordRight 173 = .ok (.ireturn, 1) := by decide +kernel
set_option maxHeartbeats 4000000 in
set_option maxRecDepth 100000 in
theorem c_MO_isWordRight (l : Launch) (dC : Nat → ClassId) (dI : Nat → Nat → Nat) (fa : Nat) (cB : ClassId) (f : Nat → Int32) (k : Nat) (hL : fm_Len (fm_RB f)) (hk : k < fm_WD (fm_RB f) 6) : fm_M l (dC, dI) y_MO_isWordRight w_MO_isWordRight ({ frames := 5, cells := 0, slots := 0, locals := 109 }) [.ref fa, .int (nI (k))] [(fa, .inl (cB, 8192, .inl (f)))] [(cB, .byte)] ((fm_bI (fm_word1 (fm_RB f) k))) := by
  refine Met.ofW (cc := b_MO_isWordRight) (maxL := 7) (ret := (some .boolean)) (by decide) rfl ?_
  intro pg ev s m args below meth cd s₁ BD hml hv
  obtain ⟨rfl, hP, hK⟩ := hv
  have hx := BD.exec
  have hb := BD.bytes
  have hr := BD.returns
  have hts := atoms_spec (ws := w_MO_isWordRight) BD.pre
  have ht : ∀ w ∈ fm_T, w.before _ s = true := fun w h => hts w (List.mem_cons_of_mem _ h)
  have hown : s.vm.findClass R_MO = some m.cls := findClass_of_methodNamed BD.named
  have hlocks := BD.notSynchronized
  have S : CallFix pg m cd b_MO_isWordRight 7 s _ w_MO_isWordRight R_MO := ⟨hx, hb, hml, hown, hts⟩
  have hl := lv_entry ([.ref fa, .int (nI (k))]) (n := 7) (Nat.le_of_ble_eq_true rfl)
  rw [lg_entry_eq]
  generalize (lg_sl ([.ref fa, .int (nI (k))]) ++ List.replicate (7 - (lg_sl ([.ref fa, .int (nI (k))])).length) Slot.unset).toArray = ls at hl ⊢
  have hl : lv_has ls 7 [(0, .ref fa), (1, .int (nI (k)))] := hl
  obtain ⟨-, hq, h3, h10⟩ := id hL
  have hin := fm_pin hL (by decide : 6 < 10) hk
  refine lv_aload_n hx hb d_MO_isWordRight_0 rfl (lv_at hl 0 rfl) ?_
  refine lv_bipush (v := nI (6)) hx hb d_MO_isWordRight_1 (by decide) ?_
  refine lv_iload_n hx hb d_MO_isWordRight_3 rfl (lv_at hl 1 rfl) ?_
  refine lv_iconst (v := nI (0)) hx hb d_MO_isWordRight_4 (by decide) ?_
  refine fm_cs S (c_MO_at l dC dI fa cB f 6 k 0 (by omega) (hq) (by omega) (by omega)) rfl rfl k_MO_at q_3_184 ⟨Nat.le_of_ble_eq_true rfl, Nat.le_of_ble_eq_true rfl⟩ (hP.sub [0] rfl) (hK.sub [0] rfl) rfl hl.1 rfl (Nat.le_of_ble_eq_true rfl) ⟨Nat.zero_le _, Nat.zero_le _⟩ d_MO_isWordRight_5 ?_
  have f0_5 := fm_AT_lt (fm_RB_lt f) 6 k 0
  refine lv_istore_n (lv' := [(2, .int (nI (fm_AT (fm_RB f) 6 k 0))), (0, .ref fa), (1, .int (nI (k)))]) hx hb d_MO_isWordRight_8 rfl hl (by decide) rfl (fun ls hl => ?_)
  refine lv_iload_n hx hb d_MO_isWordRight_9 rfl (lv_at hl 0 rfl) ?_
  refine lv_sipush (v := nI (128)) hx hb d_MO_isWordRight_10 (by decide) ?_
  refine lv_icmp_le (tgt := 36) hx hb d_MO_isWordRight_13 (by decide) (fun c0 => ?_) (fun c0 => ?_)
  · have c_13 : fm_AT (fm_RB f) 6 k 0 ≤ 128 := (nI_leI (a := fm_AT (fm_RB f) 6 k 0) (b := 128) (by omega) (by omega)).mp c0
    refine lv_aload_n hx hb d_MO_isWordRight_36 rfl (lv_at hl 1 rfl) ?_
    refine lv_bipush (v := nI (6)) hx hb d_MO_isWordRight_37 (by decide) ?_
    refine lv_iload_n hx hb d_MO_isWordRight_39 rfl (lv_at hl 2 rfl) ?_
    refine lv_iconst (v := nI (1)) hx hb d_MO_isWordRight_40 (by decide) ?_
    refine fm_cs S (c_MO_at l dC dI fa cB f 6 k 1 (by omega) (hq) (by omega) (by omega)) rfl rfl k_MO_at q_3_184 ⟨Nat.le_of_ble_eq_true rfl, Nat.le_of_ble_eq_true rfl⟩ (hP.sub [0] rfl) (hK.sub [0] rfl) rfl hl.1 rfl (Nat.le_of_ble_eq_true rfl) ⟨Nat.zero_le _, Nat.zero_le _⟩ d_MO_isWordRight_41 ?_
    have f0_41 := fm_AT_lt (fm_RB_lt f) 6 k 1
    refine lv_istore_n (lv' := [(3, .int (nI (fm_AT (fm_RB f) 6 k 1))), (2, .int (nI (fm_AT (fm_RB f) 6 k 0))), (0, .ref fa), (1, .int (nI (k)))]) hx hb d_MO_isWordRight_44 rfl hl (by decide) rfl (fun ls hl => ?_)
    refine lv_aload_n hx hb d_MO_isWordRight_45 rfl (lv_at hl 2 rfl) ?_
    refine lv_bipush (v := nI (6)) hx hb d_MO_isWordRight_46 (by decide) ?_
    refine lv_iload_n hx hb d_MO_isWordRight_48 rfl (lv_at hl 3 rfl) ?_
    refine lv_iconst (v := nI (2)) hx hb d_MO_isWordRight_49 (by decide) ?_
    refine fm_cs S (c_MO_at l dC dI fa cB f 6 k 2 (by omega) (hq) (by omega) (by omega)) rfl rfl k_MO_at q_3_184 ⟨Nat.le_of_ble_eq_true rfl, Nat.le_of_ble_eq_true rfl⟩ (hP.sub [0] rfl) (hK.sub [0] rfl) rfl hl.1 rfl (Nat.le_of_ble_eq_true rfl) ⟨Nat.zero_le _, Nat.zero_le _⟩ d_MO_isWordRight_50 ?_
    have f0_50 := fm_AT_lt (fm_RB_lt f) 6 k 2
    refine lv_istore (lv' := [(4, .int (nI (fm_AT (fm_RB f) 6 k 2))), (3, .int (nI (fm_AT (fm_RB f) 6 k 1))), (2, .int (nI (fm_AT (fm_RB f) 6 k 0))), (0, .ref fa), (1, .int (nI (k)))]) hx hb d_MO_isWordRight_53 hl (by decide) rfl (fun ls hl => ?_)
    refine lv_aload_n hx hb d_MO_isWordRight_55 rfl (lv_at hl 3 rfl) ?_
    refine lv_bipush (v := nI (6)) hx hb d_MO_isWordRight_56 (by decide) ?_
    refine lv_iload_n hx hb d_MO_isWordRight_58 rfl (lv_at hl 4 rfl) ?_
    refine lv_iconst (v := nI (3)) hx hb d_MO_isWordRight_59 (by decide) ?_
    refine fm_cs S (c_MO_at l dC dI fa cB f 6 k 3 (by omega) (hq) (by omega) (by omega)) rfl rfl k_MO_at q_3_184 ⟨Nat.le_of_ble_eq_true rfl, Nat.le_of_ble_eq_true rfl⟩ (hP.sub [0] rfl) (hK.sub [0] rfl) rfl hl.1 rfl (Nat.le_of_ble_eq_true rfl) ⟨Nat.zero_le _, Nat.zero_le _⟩ d_MO_isWordRight_60 ?_
    have f0_60 := fm_AT_lt (fm_RB_lt f) 6 k 3
    refine lv_istore (lv' := [(5, .int (nI (fm_AT (fm_RB f) 6 k 3))), (4, .int (nI (fm_AT (fm_RB f) 6 k 2))), (3, .int (nI (fm_AT (fm_RB f) 6 k 1))), (2, .int (nI (fm_AT (fm_RB f) 6 k 0))), (0, .ref fa), (1, .int (nI (k)))]) hx hb d_MO_isWordRight_63 hl (by decide) rfl (fun ls hl => ?_)
    refine lv_aload_n hx hb d_MO_isWordRight_65 rfl (lv_at hl 4 rfl) ?_
    refine lv_iload_n hx hb d_MO_isWordRight_66 rfl (lv_at hl 2 rfl) ?_
    refine fm_cs S (c_MO_isThereN l dC dI fa cB f (fm_AT (fm_RB f) 6 k 1) (by omega) (hL)) rfl rfl k_MO_isThere q_3_194 ⟨Nat.le_of_ble_eq_true rfl, Nat.le_of_ble_eq_true rfl⟩ (hP.sub [0] rfl) (hK.sub [0] rfl) rfl hl.1 rfl (Nat.le_of_ble_eq_true rfl) ⟨Nat.zero_le _, Nat.zero_le _⟩ d_MO_isWordRight_67 ?_
    refine lv_if_ne (tgt := 81) hx hb d_MO_isWordRight_70 (by decide) (fun c0 => ?_) (fun c0 => ?_)
    · have c_70 : (fm_th (fm_RB f) (fm_AT (fm_RB f) 6 k 1)) = true := fm_bI_t c0
      refine lv_iconst (v := nI (1)) hx hb d_MO_isWordRight_81 (by decide) ?_
      refine lv_goto (tgt := 86) hx hb d_MO_isWordRight_82 (by decide) ?_
      refine fm_tw (z := (fm_bI (fm_w1 (fm_RB f) k))) (by first | (refine fm_bI_1 ?_; rw [fm_w1, c_70]; rfl) | (refine fm_bI_1 ?_; rw [fm_w1, decide_eq_true c_78, Bool.or_true]) | (refine fm_bI_0 ?_; rw [fm_w1, c_70, decide_eq_false c_78]; rfl)) ?_
      refine lv_istore (lv' := [(6, .int (fm_bI (fm_w1 (fm_RB f) k))), (5, .int (nI (fm_AT (fm_RB f) 6 k 3))), (4, .int (nI (fm_AT (fm_RB f) 6 k 2))), (3, .int (nI (fm_AT (fm_RB f) 6 k 1))), (2, .int (nI (fm_AT (fm_RB f) 6 k 0))), (0, .ref fa), (1, .int (nI (k)))]) hx hb d_MO_isWordRight_86 hl (by decide) rfl (fun ls hl => ?_)
      refine lv_iload hx hb d_MO_isWordRight_88 (lv_at hl 0 rfl) ?_
      refine lv_if_eq (tgt := 139) hx hb d_MO_isWordRight_90 (by decide) (fun c0 => ?_) (fun c0 => ?_)
      · have c_90 : (fm_w1 (fm_RB f) k) = false := fm_bI_f c0
        refine lv_iconst (v := nI (0)) hx hb d_MO_isWordRight_139 (by decide) ?_
        refine fm_tw (z := (fm_bI (fm_w1 (fm_RB f) k && fm_w2 (fm_RB f) k))) (by first | exact fm_cF1 c_90 | exact fm_cT c_90 (fm_w2_1 c_98 c_107) | exact fm_cF2 (fm_w2_1 c_98 c_107) | exact fm_cT c_90 (fm_w2_t c_98 c_132) | exact fm_cF2 (fm_w2_f c_98 c_132)) ?_
        refine lv_istore (lv' := [(6, .int (fm_bI (fm_w1 (fm_RB f) k && fm_w2 (fm_RB f) k))), (5, .int (nI (fm_AT (fm_RB f) 6 k 3))), (4, .int (nI (fm_AT (fm_RB f) 6 k 2))), (3, .int (nI (fm_AT (fm_RB f) 6 k 1))), (2, .int (nI (fm_AT (fm_RB f) 6 k 0))), (0, .ref fa), (1, .int (nI (k)))]) hx hb d_MO_isWordRight_140 hl (by decide) rfl (fun ls hl => ?_)
        refine lv_iload hx hb d_MO_isWordRight_142 (lv_at hl 0 rfl) ?_
        refine lv_if_eq (tgt := 172) hx hb d_MO_isWordRight_144 (by decide) (fun c0 => ?_) (fun c0 => ?_)
        · have c_144 : (fm_w1 (fm_RB f) k && fm_w2 (fm_RB f) k) = false := fm_bI_f c0
          refine lv_iconst (v := nI (0)) hx hb d_MO_isWordRight_172 (by decide) ?_
          exact W.zret (ty := .boolean) hx hb hr (rfl) (fun t ht hW => ⟨_, rfl, by rw [fm_word1, if_neg (Nat.not_lt.mpr c_13)]; first | exact fm_cF1 c_144 | exact fm_cT c_144 (by rw [fm_w3, decide_eq_true c_151]; rfl) | exact fm_cT c_144 (by rw [fm_w3, decide_eq_true (Nat.lt_of_not_le c_165), Bool.or_true]) | exact fm_cF2 (by rw [fm_w3, decide_eq_false c_151, decide_eq_false (Nat.not_lt.mpr c_165)]; rfl), ht⟩) (fun q hq => by cases hq) d_MO_isWordRight_173
        · have c_144 : (fm_w1 (fm_RB f) k && fm_w2 (fm_RB f) k) = true := fm_bI_t c0
          refine lv_iload_n hx hb d_MO_isWordRight_147 rfl (lv_at hl 4 rfl) ?_
          refine lv_sipush (v := nI (128)) hx hb d_MO_isWordRight_148 (by decide) ?_
          refine lv_icmp_eq (tgt := 168) hx hb d_MO_isWordRight_151 (by decide) (fun c0 => ?_) (fun c0 => ?_)
          · have c_151 : fm_AT (fm_RB f) 6 k 0 = 128 := (nI_eq (a := fm_AT (fm_RB f) 6 k 0) (b := 128) (by omega) (by omega)).mp c0
            refine lv_iconst (v := nI (1)) hx hb d_MO_isWordRight_168 (by decide) ?_
            refine lv_goto (tgt := 173) hx hb d_MO_isWordRight_169 (by decide) ?_
            exact W.zret (ty := .boolean) hx hb hr (rfl) (fun t ht hW => ⟨_, rfl, by rw [fm_word1, if_neg (Nat.not_lt.mpr c_13)]; first | exact fm_cF1 c_144 | exact fm_cT c_144 (by rw [fm_w3, decide_eq_true c_151]; rfl) | exact fm_cT c_144 (by rw [fm_w3, decide_eq_true (Nat.lt_of_not_le c_165), Bool.or_true]) | exact fm_cF2 (by rw [fm_w3, decide_eq_false c_151, decide_eq_false (Nat.not_lt.mpr c_165)]; rfl), ht⟩) (fun q hq => by cases hq) d_MO_isWordRight_173
          · have c_151 : ¬ (fm_AT (fm_RB f) 6 k 0 = 128) := fun z => c0 ((nI_eq (a := fm_AT (fm_RB f) 6 k 0) (b := 128) (by omega) (by omega)).mpr z)
            refine lv_iload_n hx hb d_MO_isWordRight_154 rfl (lv_at hl 6 rfl) ?_
            refine lv_iload_n hx hb d_MO_isWordRight_155 rfl (lv_at hl 4 rfl) ?_
            refine lv_iadd hx hb d_MO_isWordRight_156 ?_
            refine fm_tw (z := nI (k + fm_AT (fm_RB f) 6 k 0)) (nI_add _ _) ?_
            refine lv_iconst (v := nI (1)) hx hb d_MO_isWordRight_157 (by decide) ?_
            refine lv_iadd hx hb d_MO_isWordRight_158 ?_
            refine fm_tw (z := nI (k + fm_AT (fm_RB f) 6 k 0 + 1)) (nI_add _ _) ?_
            refine lv_aload_n hx hb d_MO_isWordRight_159 rfl (lv_at hl 5 rfl) ?_
            refine lv_bipush (v := nI (6)) hx hb d_MO_isWordRight_160 (by decide) ?_
            refine fm_cs S (c_MO_words l dC dI fa cB f 6 (by omega) (fun _ => hq)) rfl rfl k_MO_words q_3_175 ⟨Nat.le_of_ble_eq_true rfl, Nat.le_of_ble_eq_true rfl⟩ (hP.sub [0] rfl) (hK.sub [0] rfl) rfl hl.1 rfl (Nat.le_of_ble_eq_true rfl) ⟨Nat.zero_le _, Nat.zero_le _⟩ d_MO_isWordRight_162 ?_
            have f0_162 := fm_WD_le (fm_RB_lt f) 6
            refine lv_icmp_ge (tgt := 172) hx hb d_MO_isWordRight_165 (by decide) (fun c0 => ?_) (fun c0 => ?_)
            · have c_165 : fm_WD (fm_RB f) 6 ≤ k + fm_AT (fm_RB f) 6 k 0 + 1 := (nI_leI (a := fm_WD (fm_RB f) 6) (b := k + fm_AT (fm_RB f) 6 k 0 + 1) (by omega) (by omega)).mp c0
              refine lv_iconst (v := nI (0)) hx hb d_MO_isWordRight_172 (by decide) ?_
              exact W.zret (ty := .boolean) hx hb hr (rfl) (fun t ht hW => ⟨_, rfl, by rw [fm_word1, if_neg (Nat.not_lt.mpr c_13)]; first | exact fm_cF1 c_144 | exact fm_cT c_144 (by rw [fm_w3, decide_eq_true c_151]; rfl) | exact fm_cT c_144 (by rw [fm_w3, decide_eq_true (Nat.lt_of_not_le c_165), Bool.or_true]) | exact fm_cF2 (by rw [fm_w3, decide_eq_false c_151, decide_eq_false (Nat.not_lt.mpr c_165)]; rfl), ht⟩) (fun q hq => by cases hq) d_MO_isWordRight_173
            · have c_165 : ¬ (fm_WD (fm_RB f) 6 ≤ k + fm_AT (fm_RB f) 6 k 0 + 1) := fun z => c0 ((nI_leI (a := fm_WD (fm_RB f) 6) (b := k + fm_AT (fm_RB f) 6 k 0 + 1) (by omega) (by omega)).mpr z)
              refine lv_iconst (v := nI (1)) hx hb d_MO_isWordRight_168 (by decide) ?_
              refine lv_goto (tgt := 173) hx hb d_MO_isWordRight_169 (by decide) ?_
              exact W.zret (ty := .boolean) hx hb hr (rfl) (fun t ht hW => ⟨_, rfl, by rw [fm_word1, if_neg (Nat.not_lt.mpr c_13)]; first | exact fm_cF1 c_144 | exact fm_cT c_144 (by rw [fm_w3, decide_eq_true c_151]; rfl) | exact fm_cT c_144 (by rw [fm_w3, decide_eq_true (Nat.lt_of_not_le c_165), Bool.or_true]) | exact fm_cF2 (by rw [fm_w3, decide_eq_false c_151, decide_eq_false (Nat.not_lt.mpr c_165)]; rfl), ht⟩) (fun q hq => by cases hq) d_MO_isWordRight_173
      · have c_90 : (fm_w1 (fm_RB f) k) = true := fm_bI_t c0
        refine lv_iload hx hb d_MO_isWordRight_93 (lv_at hl 2 rfl) ?_
        refine lv_sipush (v := nI (128)) hx hb d_MO_isWordRight_95 (by decide) ?_
        refine lv_icmp_ge (tgt := 113) hx hb d_MO_isWordRight_98 (by decide) (fun c0 => ?_) (fun c0 => ?_)
        · have c_98 : 128 ≤ fm_AT (fm_RB f) 6 k 2 := (nI_leI (a := 128) (b := fm_AT (fm_RB f) 6 k 2) (by omega) (by omega)).mp c0
          refine lv_sipush (v := nI (256)) hx hb d_MO_isWordRight_113 (by decide) ?_
          refine lv_iload hx hb d_MO_isWordRight_116 (lv_at hl 2 rfl) ?_
          refine lv_sipush (v := nI (128)) hx hb d_MO_isWordRight_118 (by decide) ?_
          refine lv_isub hx hb d_MO_isWordRight_121 ?_
          refine fm_tw (z := nI (fm_AT (fm_RB f) 6 k 2 - 128)) (pk_sub (by omega)) ?_
          refine lv_imul hx hb d_MO_isWordRight_122 ?_
          refine fm_tw (z := nI (256 * (fm_AT (fm_RB f) 6 k 2 - 128))) (pk_mul _ _) ?_
          refine lv_iload hx hb d_MO_isWordRight_123 (lv_at hl 1 rfl) ?_
          refine lv_iadd hx hb d_MO_isWordRight_125 ?_
          refine fm_tw (z := nI (256 * (fm_AT (fm_RB f) 6 k 2 - 128) + fm_AT (fm_RB f) 6 k 3)) (nI_add _ _) ?_
          refine lv_aload_n hx hb d_MO_isWordRight_126 rfl (lv_at hl 5 rfl) ?_
          refine lv_bipush (v := nI (7)) hx hb d_MO_isWordRight_127 (by decide) ?_
          refine fm_cs S (c_MO_words l dC dI fa cB f 7 (by omega) (fun _ => hq)) rfl rfl k_MO_words q_3_175 ⟨Nat.le_of_ble_eq_true rfl, Nat.le_of_ble_eq_true rfl⟩ (hP.sub [0] rfl) (hK.sub [0] rfl) rfl hl.1 rfl (Nat.le_of_ble_eq_true rfl) ⟨Nat.zero_le _, Nat.zero_le _⟩ d_MO_isWordRight_129 ?_
          have f0_129 := fm_WD_le (fm_RB_lt f) 7
          refine lv_icmp_ge (tgt := 139) hx hb d_MO_isWordRight_132 (by decide) (fun c0 => ?_) (fun c0 => ?_)
          · have c_132 : fm_WD (fm_RB f) 7 ≤ 256 * (fm_AT (fm_RB f) 6 k 2 - 128) + fm_AT (fm_RB f) 6 k 3 := (nI_leI (a := fm_WD (fm_RB f) 7) (b := 256 * (fm_AT (fm_RB f) 6 k 2 - 128) + fm_AT (fm_RB f) 6 k 3) (by omega) (by omega)).mp c0
            refine lv_iconst (v := nI (0)) hx hb d_MO_isWordRight_139 (by decide) ?_
            refine fm_tw (z := (fm_bI (fm_w1 (fm_RB f) k && fm_w2 (fm_RB f) k))) (by first | exact fm_cF1 c_90 | exact fm_cT c_90 (fm_w2_1 c_98 c_107) | exact fm_cF2 (fm_w2_1 c_98 c_107) | exact fm_cT c_90 (fm_w2_t c_98 c_132) | exact fm_cF2 (fm_w2_f c_98 c_132)) ?_
            refine lv_istore (lv' := [(6, .int (fm_bI (fm_w1 (fm_RB f) k && fm_w2 (fm_RB f) k))), (5, .int (nI (fm_AT (fm_RB f) 6 k 3))), (4, .int (nI (fm_AT (fm_RB f) 6 k 2))), (3, .int (nI (fm_AT (fm_RB f) 6 k 1))), (2, .int (nI (fm_AT (fm_RB f) 6 k 0))), (0, .ref fa), (1, .int (nI (k)))]) hx hb d_MO_isWordRight_140 hl (by decide) rfl (fun ls hl => ?_)
            refine lv_iload hx hb d_MO_isWordRight_142 (lv_at hl 0 rfl) ?_
            refine lv_if_eq (tgt := 172) hx hb d_MO_isWordRight_144 (by decide) (fun c0 => ?_) (fun c0 => ?_)
            · have c_144 : (fm_w1 (fm_RB f) k && fm_w2 (fm_RB f) k) = false := fm_bI_f c0
              refine lv_iconst (v := nI (0)) hx hb d_MO_isWordRight_172 (by decide) ?_
              exact W.zret (ty := .boolean) hx hb hr (rfl) (fun t ht hW => ⟨_, rfl, by rw [fm_word1, if_neg (Nat.not_lt.mpr c_13)]; first | exact fm_cF1 c_144 | exact fm_cT c_144 (by rw [fm_w3, decide_eq_true c_151]; rfl) | exact fm_cT c_144 (by rw [fm_w3, decide_eq_true (Nat.lt_of_not_le c_165), Bool.or_true]) | exact fm_cF2 (by rw [fm_w3, decide_eq_false c_151, decide_eq_false (Nat.not_lt.mpr c_165)]; rfl), ht⟩) (fun q hq => by cases hq) d_MO_isWordRight_173
            · have c_144 : (fm_w1 (fm_RB f) k && fm_w2 (fm_RB f) k) = true := fm_bI_t c0
              refine lv_iload_n hx hb d_MO_isWordRight_147 rfl (lv_at hl 4 rfl) ?_
              refine lv_sipush (v := nI (128)) hx hb d_MO_isWordRight_148 (by decide) ?_
              refine lv_icmp_eq (tgt := 168) hx hb d_MO_isWordRight_151 (by decide) (fun c0 => ?_) (fun c0 => ?_)
              · have c_151 : fm_AT (fm_RB f) 6 k 0 = 128 := (nI_eq (a := fm_AT (fm_RB f) 6 k 0) (b := 128) (by omega) (by omega)).mp c0
                refine lv_iconst (v := nI (1)) hx hb d_MO_isWordRight_168 (by decide) ?_
                refine lv_goto (tgt := 173) hx hb d_MO_isWordRight_169 (by decide) ?_
                exact W.zret (ty := .boolean) hx hb hr (rfl) (fun t ht hW => ⟨_, rfl, by rw [fm_word1, if_neg (Nat.not_lt.mpr c_13)]; first | exact fm_cF1 c_144 | exact fm_cT c_144 (by rw [fm_w3, decide_eq_true c_151]; rfl) | exact fm_cT c_144 (by rw [fm_w3, decide_eq_true (Nat.lt_of_not_le c_165), Bool.or_true]) | exact fm_cF2 (by rw [fm_w3, decide_eq_false c_151, decide_eq_false (Nat.not_lt.mpr c_165)]; rfl), ht⟩) (fun q hq => by cases hq) d_MO_isWordRight_173
              · have c_151 : ¬ (fm_AT (fm_RB f) 6 k 0 = 128) := fun z => c0 ((nI_eq (a := fm_AT (fm_RB f) 6 k 0) (b := 128) (by omega) (by omega)).mpr z)
                refine lv_iload_n hx hb d_MO_isWordRight_154 rfl (lv_at hl 6 rfl) ?_
                refine lv_iload_n hx hb d_MO_isWordRight_155 rfl (lv_at hl 4 rfl) ?_
                refine lv_iadd hx hb d_MO_isWordRight_156 ?_
                refine fm_tw (z := nI (k + fm_AT (fm_RB f) 6 k 0)) (nI_add _ _) ?_
                refine lv_iconst (v := nI (1)) hx hb d_MO_isWordRight_157 (by decide) ?_
                refine lv_iadd hx hb d_MO_isWordRight_158 ?_
                refine fm_tw (z := nI (k + fm_AT (fm_RB f) 6 k 0 + 1)) (nI_add _ _) ?_
                refine lv_aload_n hx hb d_MO_isWordRight_159 rfl (lv_at hl 5 rfl) ?_
                refine lv_bipush (v := nI (6)) hx hb d_MO_isWordRight_160 (by decide) ?_
                refine fm_cs S (c_MO_words l dC dI fa cB f 6 (by omega) (fun _ => hq)) rfl rfl k_MO_words q_3_175 ⟨Nat.le_of_ble_eq_true rfl, Nat.le_of_ble_eq_true rfl⟩ (hP.sub [0] rfl) (hK.sub [0] rfl) rfl hl.1 rfl (Nat.le_of_ble_eq_true rfl) ⟨Nat.zero_le _, Nat.zero_le _⟩ d_MO_isWordRight_162 ?_
                have f0_162 := fm_WD_le (fm_RB_lt f) 6
                refine lv_icmp_ge (tgt := 172) hx hb d_MO_isWordRight_165 (by decide) (fun c0 => ?_) (fun c0 => ?_)
                · have c_165 : fm_WD (fm_RB f) 6 ≤ k + fm_AT (fm_RB f) 6 k 0 + 1 := (nI_leI (a := fm_WD (fm_RB f) 6) (b := k + fm_AT (fm_RB f) 6 k 0 + 1) (by omega) (by omega)).mp c0
                  refine lv_iconst (v := nI (0)) hx hb d_MO_isWordRight_172 (by decide) ?_
                  exact W.zret (ty := .boolean) hx hb hr (rfl) (fun t ht hW => ⟨_, rfl, by rw [fm_word1, if_neg (Nat.not_lt.mpr c_13)]; first | exact fm_cF1 c_144 | exact fm_cT c_144 (by rw [fm_w3, decide_eq_true c_151]; rfl) | exact fm_cT c_144 (by rw [fm_w3, decide_eq_true (Nat.lt_of_not_le c_165), Bool.or_true]) | exact fm_cF2 (by rw [fm_w3, decide_eq_false c_151, decide_eq_false (Nat.not_lt.mpr c_165)]; rfl), ht⟩) (fun q hq => by cases hq) d_MO_isWordRight_173
                · have c_165 : ¬ (fm_WD (fm_RB f) 6 ≤ k + fm_AT (fm_RB f) 6 k 0 + 1) := fun z => c0 ((nI_leI (a := fm_WD (fm_RB f) 6) (b := k + fm_AT (fm_RB f) 6 k 0 + 1) (by omega) (by omega)).mpr z)
                  refine lv_iconst (v := nI (1)) hx hb d_MO_isWordRight_168 (by decide) ?_
                  refine lv_goto (tgt := 173) hx hb d_MO_isWordRight_169 (by decide) ?_
                  exact W.zret (ty := .boolean) hx hb hr (rfl) (fun t ht hW => ⟨_, rfl, by rw [fm_word1, if_neg (Nat.not_lt.mpr c_13)]; first | exact fm_cF1 c_144 | exact fm_cT c_144 (by rw [fm_w3, decide_eq_true c_151]; rfl) | exact fm_cT c_144 (by rw [fm_w3, decide_eq_true (Nat.lt_of_not_le c_165), Bool.or_true]) | exact fm_cF2 (by rw [fm_w3, decide_eq_false c_151, decide_eq_false (Nat.not_lt.mpr c_165)]; rfl), ht⟩) (fun q hq => by cases hq) d_MO_isWordRight_173
          · have c_132 : ¬ (fm_WD (fm_RB f) 7 ≤ 256 * (fm_AT (fm_RB f) 6 k 2 - 128) + fm_AT (fm_RB f) 6 k 3) := fun z => c0 ((nI_leI (a := fm_WD (fm_RB f) 7) (b := 256 * (fm_AT (fm_RB f) 6 k 2 - 128) + fm_AT (fm_RB f) 6 k 3) (by omega) (by omega)).mpr z)
            refine lv_iconst (v := nI (1)) hx hb d_MO_isWordRight_135 (by decide) ?_
            refine lv_goto (tgt := 140) hx hb d_MO_isWordRight_136 (by decide) ?_
            refine fm_tw (z := (fm_bI (fm_w1 (fm_RB f) k && fm_w2 (fm_RB f) k))) (by first | exact fm_cF1 c_90 | exact fm_cT c_90 (fm_w2_1 c_98 c_107) | exact fm_cF2 (fm_w2_1 c_98 c_107) | exact fm_cT c_90 (fm_w2_t c_98 c_132) | exact fm_cF2 (fm_w2_f c_98 c_132)) ?_
            refine lv_istore (lv' := [(6, .int (fm_bI (fm_w1 (fm_RB f) k && fm_w2 (fm_RB f) k))), (5, .int (nI (fm_AT (fm_RB f) 6 k 3))), (4, .int (nI (fm_AT (fm_RB f) 6 k 2))), (3, .int (nI (fm_AT (fm_RB f) 6 k 1))), (2, .int (nI (fm_AT (fm_RB f) 6 k 0))), (0, .ref fa), (1, .int (nI (k)))]) hx hb d_MO_isWordRight_140 hl (by decide) rfl (fun ls hl => ?_)
            refine lv_iload hx hb d_MO_isWordRight_142 (lv_at hl 0 rfl) ?_
            refine lv_if_eq (tgt := 172) hx hb d_MO_isWordRight_144 (by decide) (fun c0 => ?_) (fun c0 => ?_)
            · have c_144 : (fm_w1 (fm_RB f) k && fm_w2 (fm_RB f) k) = false := fm_bI_f c0
              refine lv_iconst (v := nI (0)) hx hb d_MO_isWordRight_172 (by decide) ?_
              exact W.zret (ty := .boolean) hx hb hr (rfl) (fun t ht hW => ⟨_, rfl, by rw [fm_word1, if_neg (Nat.not_lt.mpr c_13)]; first | exact fm_cF1 c_144 | exact fm_cT c_144 (by rw [fm_w3, decide_eq_true c_151]; rfl) | exact fm_cT c_144 (by rw [fm_w3, decide_eq_true (Nat.lt_of_not_le c_165), Bool.or_true]) | exact fm_cF2 (by rw [fm_w3, decide_eq_false c_151, decide_eq_false (Nat.not_lt.mpr c_165)]; rfl), ht⟩) (fun q hq => by cases hq) d_MO_isWordRight_173
            · have c_144 : (fm_w1 (fm_RB f) k && fm_w2 (fm_RB f) k) = true := fm_bI_t c0
              refine lv_iload_n hx hb d_MO_isWordRight_147 rfl (lv_at hl 4 rfl) ?_
              refine lv_sipush (v := nI (128)) hx hb d_MO_isWordRight_148 (by decide) ?_
              refine lv_icmp_eq (tgt := 168) hx hb d_MO_isWordRight_151 (by decide) (fun c0 => ?_) (fun c0 => ?_)
              · have c_151 : fm_AT (fm_RB f) 6 k 0 = 128 := (nI_eq (a := fm_AT (fm_RB f) 6 k 0) (b := 128) (by omega) (by omega)).mp c0
                refine lv_iconst (v := nI (1)) hx hb d_MO_isWordRight_168 (by decide) ?_
                refine lv_goto (tgt := 173) hx hb d_MO_isWordRight_169 (by decide) ?_
                exact W.zret (ty := .boolean) hx hb hr (rfl) (fun t ht hW => ⟨_, rfl, by rw [fm_word1, if_neg (Nat.not_lt.mpr c_13)]; first | exact fm_cF1 c_144 | exact fm_cT c_144 (by rw [fm_w3, decide_eq_true c_151]; rfl) | exact fm_cT c_144 (by rw [fm_w3, decide_eq_true (Nat.lt_of_not_le c_165), Bool.or_true]) | exact fm_cF2 (by rw [fm_w3, decide_eq_false c_151, decide_eq_false (Nat.not_lt.mpr c_165)]; rfl), ht⟩) (fun q hq => by cases hq) d_MO_isWordRight_173
              · have c_151 : ¬ (fm_AT (fm_RB f) 6 k 0 = 128) := fun z => c0 ((nI_eq (a := fm_AT (fm_RB f) 6 k 0) (b := 128) (by omega) (by omega)).mpr z)
                refine lv_iload_n hx hb d_MO_isWordRight_154 rfl (lv_at hl 6 rfl) ?_
                refine lv_iload_n hx hb d_MO_isWordRight_155 rfl (lv_at hl 4 rfl) ?_
                refine lv_iadd hx hb d_MO_isWordRight_156 ?_
                refine fm_tw (z := nI (k + fm_AT (fm_RB f) 6 k 0)) (nI_add _ _) ?_
                refine lv_iconst (v := nI (1)) hx hb d_MO_isWordRight_157 (by decide) ?_
                refine lv_iadd hx hb d_MO_isWordRight_158 ?_
                refine fm_tw (z := nI (k + fm_AT (fm_RB f) 6 k 0 + 1)) (nI_add _ _) ?_
                refine lv_aload_n hx hb d_MO_isWordRight_159 rfl (lv_at hl 5 rfl) ?_
                refine lv_bipush (v := nI (6)) hx hb d_MO_isWordRight_160 (by decide) ?_
                refine fm_cs S (c_MO_words l dC dI fa cB f 6 (by omega) (fun _ => hq)) rfl rfl k_MO_words q_3_175 ⟨Nat.le_of_ble_eq_true rfl, Nat.le_of_ble_eq_true rfl⟩ (hP.sub [0] rfl) (hK.sub [0] rfl) rfl hl.1 rfl (Nat.le_of_ble_eq_true rfl) ⟨Nat.zero_le _, Nat.zero_le _⟩ d_MO_isWordRight_162 ?_
                have f0_162 := fm_WD_le (fm_RB_lt f) 6
                refine lv_icmp_ge (tgt := 172) hx hb d_MO_isWordRight_165 (by decide) (fun c0 => ?_) (fun c0 => ?_)
                · have c_165 : fm_WD (fm_RB f) 6 ≤ k + fm_AT (fm_RB f) 6 k 0 + 1 := (nI_leI (a := fm_WD (fm_RB f) 6) (b := k + fm_AT (fm_RB f) 6 k 0 + 1) (by omega) (by omega)).mp c0
                  refine lv_iconst (v := nI (0)) hx hb d_MO_isWordRight_172 (by decide) ?_
                  exact W.zret (ty := .boolean) hx hb hr (rfl) (fun t ht hW => ⟨_, rfl, by rw [fm_word1, if_neg (Nat.not_lt.mpr c_13)]; first | exact fm_cF1 c_144 | exact fm_cT c_144 (by rw [fm_w3, decide_eq_true c_151]; rfl) | exact fm_cT c_144 (by rw [fm_w3, decide_eq_true (Nat.lt_of_not_le c_165), Bool.or_true]) | exact fm_cF2 (by rw [fm_w3, decide_eq_false c_151, decide_eq_false (Nat.not_lt.mpr c_165)]; rfl), ht⟩) (fun q hq => by cases hq) d_MO_isWordRight_173
                · have c_165 : ¬ (fm_WD (fm_RB f) 6 ≤ k + fm_AT (fm_RB f) 6 k 0 + 1) := fun z => c0 ((nI_leI (a := fm_WD (fm_RB f) 6) (b := k + fm_AT (fm_RB f) 6 k 0 + 1) (by omega) (by omega)).mpr z)
                  refine lv_iconst (v := nI (1)) hx hb d_MO_isWordRight_168 (by decide) ?_
                  refine lv_goto (tgt := 173) hx hb d_MO_isWordRight_169 (by decide) ?_
                  exact W.zret (ty := .boolean) hx hb hr (rfl) (fun t ht hW => ⟨_, rfl, by rw [fm_word1, if_neg (Nat.not_lt.mpr c_13)]; first | exact fm_cF1 c_144 | exact fm_cT c_144 (by rw [fm_w3, decide_eq_true c_151]; rfl) | exact fm_cT c_144 (by rw [fm_w3, decide_eq_true (Nat.lt_of_not_le c_165), Bool.or_true]) | exact fm_cF2 (by rw [fm_w3, decide_eq_false c_151, decide_eq_false (Nat.not_lt.mpr c_165)]; rfl), ht⟩) (fun q hq => by cases hq) d_MO_isWordRight_173
        · have c_98 : ¬ (128 ≤ fm_AT (fm_RB f) 6 k 2) := fun z => c0 ((nI_leI (a := 128) (b := fm_AT (fm_RB f) 6 k 2) (by omega) (by omega)).mpr z)
          refine lv_aload_n hx hb d_MO_isWordRight_101 rfl (lv_at hl 5 rfl) ?_
          refine lv_iload hx hb d_MO_isWordRight_102 (lv_at hl 1 rfl) ?_
          refine fm_cs S (c_MO_isThereN l dC dI fa cB f (fm_AT (fm_RB f) 6 k 3) (by omega) (hL)) rfl rfl k_MO_isThere q_3_194 ⟨Nat.le_of_ble_eq_true rfl, Nat.le_of_ble_eq_true rfl⟩ (hP.sub [0] rfl) (hK.sub [0] rfl) rfl hl.1 rfl (Nat.le_of_ble_eq_true rfl) ⟨Nat.zero_le _, Nat.zero_le _⟩ d_MO_isWordRight_104 ?_
          refine lv_if_eq (tgt := 139) hx hb d_MO_isWordRight_107 (by decide) (fun c0 => ?_) (fun c0 => ?_)
          · have c_107 : (fm_th (fm_RB f) (fm_AT (fm_RB f) 6 k 3)) = false := fm_bI_f c0
            refine lv_iconst (v := nI (0)) hx hb d_MO_isWordRight_139 (by decide) ?_
            refine fm_tw (z := (fm_bI (fm_w1 (fm_RB f) k && fm_w2 (fm_RB f) k))) (by first | exact fm_cF1 c_90 | exact fm_cT c_90 (fm_w2_1 c_98 c_107) | exact fm_cF2 (fm_w2_1 c_98 c_107) | exact fm_cT c_90 (fm_w2_t c_98 c_132) | exact fm_cF2 (fm_w2_f c_98 c_132)) ?_
            refine lv_istore (lv' := [(6, .int (fm_bI (fm_w1 (fm_RB f) k && fm_w2 (fm_RB f) k))), (5, .int (nI (fm_AT (fm_RB f) 6 k 3))), (4, .int (nI (fm_AT (fm_RB f) 6 k 2))), (3, .int (nI (fm_AT (fm_RB f) 6 k 1))), (2, .int (nI (fm_AT (fm_RB f) 6 k 0))), (0, .ref fa), (1, .int (nI (k)))]) hx hb d_MO_isWordRight_140 hl (by decide) rfl (fun ls hl => ?_)
            refine lv_iload hx hb d_MO_isWordRight_142 (lv_at hl 0 rfl) ?_
            refine lv_if_eq (tgt := 172) hx hb d_MO_isWordRight_144 (by decide) (fun c0 => ?_) (fun c0 => ?_)
            · have c_144 : (fm_w1 (fm_RB f) k && fm_w2 (fm_RB f) k) = false := fm_bI_f c0
              refine lv_iconst (v := nI (0)) hx hb d_MO_isWordRight_172 (by decide) ?_
              exact W.zret (ty := .boolean) hx hb hr (rfl) (fun t ht hW => ⟨_, rfl, by rw [fm_word1, if_neg (Nat.not_lt.mpr c_13)]; first | exact fm_cF1 c_144 | exact fm_cT c_144 (by rw [fm_w3, decide_eq_true c_151]; rfl) | exact fm_cT c_144 (by rw [fm_w3, decide_eq_true (Nat.lt_of_not_le c_165), Bool.or_true]) | exact fm_cF2 (by rw [fm_w3, decide_eq_false c_151, decide_eq_false (Nat.not_lt.mpr c_165)]; rfl), ht⟩) (fun q hq => by cases hq) d_MO_isWordRight_173
            · have c_144 : (fm_w1 (fm_RB f) k && fm_w2 (fm_RB f) k) = true := fm_bI_t c0
              refine lv_iload_n hx hb d_MO_isWordRight_147 rfl (lv_at hl 4 rfl) ?_
              refine lv_sipush (v := nI (128)) hx hb d_MO_isWordRight_148 (by decide) ?_
              refine lv_icmp_eq (tgt := 168) hx hb d_MO_isWordRight_151 (by decide) (fun c0 => ?_) (fun c0 => ?_)
              · have c_151 : fm_AT (fm_RB f) 6 k 0 = 128 := (nI_eq (a := fm_AT (fm_RB f) 6 k 0) (b := 128) (by omega) (by omega)).mp c0
                refine lv_iconst (v := nI (1)) hx hb d_MO_isWordRight_168 (by decide) ?_
                refine lv_goto (tgt := 173) hx hb d_MO_isWordRight_169 (by decide) ?_
                exact W.zret (ty := .boolean) hx hb hr (rfl) (fun t ht hW => ⟨_, rfl, by rw [fm_word1, if_neg (Nat.not_lt.mpr c_13)]; first | exact fm_cF1 c_144 | exact fm_cT c_144 (by rw [fm_w3, decide_eq_true c_151]; rfl) | exact fm_cT c_144 (by rw [fm_w3, decide_eq_true (Nat.lt_of_not_le c_165), Bool.or_true]) | exact fm_cF2 (by rw [fm_w3, decide_eq_false c_151, decide_eq_false (Nat.not_lt.mpr c_165)]; rfl), ht⟩) (fun q hq => by cases hq) d_MO_isWordRight_173
              · have c_151 : ¬ (fm_AT (fm_RB f) 6 k 0 = 128) := fun z => c0 ((nI_eq (a := fm_AT (fm_RB f) 6 k 0) (b := 128) (by omega) (by omega)).mpr z)
                refine lv_iload_n hx hb d_MO_isWordRight_154 rfl (lv_at hl 6 rfl) ?_
                refine lv_iload_n hx hb d_MO_isWordRight_155 rfl (lv_at hl 4 rfl) ?_
                refine lv_iadd hx hb d_MO_isWordRight_156 ?_
                refine fm_tw (z := nI (k + fm_AT (fm_RB f) 6 k 0)) (nI_add _ _) ?_
                refine lv_iconst (v := nI (1)) hx hb d_MO_isWordRight_157 (by decide) ?_
                refine lv_iadd hx hb d_MO_isWordRight_158 ?_
                refine fm_tw (z := nI (k + fm_AT (fm_RB f) 6 k 0 + 1)) (nI_add _ _) ?_
                refine lv_aload_n hx hb d_MO_isWordRight_159 rfl (lv_at hl 5 rfl) ?_
                refine lv_bipush (v := nI (6)) hx hb d_MO_isWordRight_160 (by decide) ?_
                refine fm_cs S (c_MO_words l dC dI fa cB f 6 (by omega) (fun _ => hq)) rfl rfl k_MO_words q_3_175 ⟨Nat.le_of_ble_eq_true rfl, Nat.le_of_ble_eq_true rfl⟩ (hP.sub [0] rfl) (hK.sub [0] rfl) rfl hl.1 rfl (Nat.le_of_ble_eq_true rfl) ⟨Nat.zero_le _, Nat.zero_le _⟩ d_MO_isWordRight_162 ?_
                have f0_162 := fm_WD_le (fm_RB_lt f) 6
                refine lv_icmp_ge (tgt := 172) hx hb d_MO_isWordRight_165 (by decide) (fun c0 => ?_) (fun c0 => ?_)
                · have c_165 : fm_WD (fm_RB f) 6 ≤ k + fm_AT (fm_RB f) 6 k 0 + 1 := (nI_leI (a := fm_WD (fm_RB f) 6) (b := k + fm_AT (fm_RB f) 6 k 0 + 1) (by omega) (by omega)).mp c0
                  refine lv_iconst (v := nI (0)) hx hb d_MO_isWordRight_172 (by decide) ?_
                  exact W.zret (ty := .boolean) hx hb hr (rfl) (fun t ht hW => ⟨_, rfl, by rw [fm_word1, if_neg (Nat.not_lt.mpr c_13)]; first | exact fm_cF1 c_144 | exact fm_cT c_144 (by rw [fm_w3, decide_eq_true c_151]; rfl) | exact fm_cT c_144 (by rw [fm_w3, decide_eq_true (Nat.lt_of_not_le c_165), Bool.or_true]) | exact fm_cF2 (by rw [fm_w3, decide_eq_false c_151, decide_eq_false (Nat.not_lt.mpr c_165)]; rfl), ht⟩) (fun q hq => by cases hq) d_MO_isWordRight_173
                · have c_165 : ¬ (fm_WD (fm_RB f) 6 ≤ k + fm_AT (fm_RB f) 6 k 0 + 1) := fun z => c0 ((nI_leI (a := fm_WD (fm_RB f) 6) (b := k + fm_AT (fm_RB f) 6 k 0 + 1) (by omega) (by omega)).mpr z)
                  refine lv_iconst (v := nI (1)) hx hb d_MO_isWordRight_168 (by decide) ?_
                  refine lv_goto (tgt := 173) hx hb d_MO_isWordRight_169 (by decide) ?_
                  exact W.zret (ty := .boolean) hx hb hr (rfl) (fun t ht hW => ⟨_, rfl, by rw [fm_word1, if_neg (Nat.not_lt.mpr c_13)]; first | exact fm_cF1 c_144 | exact fm_cT c_144 (by rw [fm_w3, decide_eq_true c_151]; rfl) | exact fm_cT c_144 (by rw [fm_w3, decide_eq_true (Nat.lt_of_not_le c_165), Bool.or_true]) | exact fm_cF2 (by rw [fm_w3, decide_eq_false c_151, decide_eq_false (Nat.not_lt.mpr c_165)]; rfl), ht⟩) (fun q hq => by cases hq) d_MO_isWordRight_173
          · have c_107 : (fm_th (fm_RB f) (fm_AT (fm_RB f) 6 k 3)) = true := fm_bI_t c0
            refine lv_goto (tgt := 135) hx hb d_MO_isWordRight_110 (by decide) ?_
            refine lv_iconst (v := nI (1)) hx hb d_MO_isWordRight_135 (by decide) ?_
            refine lv_goto (tgt := 140) hx hb d_MO_isWordRight_136 (by decide) ?_
            refine fm_tw (z := (fm_bI (fm_w1 (fm_RB f) k && fm_w2 (fm_RB f) k))) (by first | exact fm_cF1 c_90 | exact fm_cT c_90 (fm_w2_1 c_98 c_107) | exact fm_cF2 (fm_w2_1 c_98 c_107) | exact fm_cT c_90 (fm_w2_t c_98 c_132) | exact fm_cF2 (fm_w2_f c_98 c_132)) ?_
            refine lv_istore (lv' := [(6, .int (fm_bI (fm_w1 (fm_RB f) k && fm_w2 (fm_RB f) k))), (5, .int (nI (fm_AT (fm_RB f) 6 k 3))), (4, .int (nI (fm_AT (fm_RB f) 6 k 2))), (3, .int (nI (fm_AT (fm_RB f) 6 k 1))), (2, .int (nI (fm_AT (fm_RB f) 6 k 0))), (0, .ref fa), (1, .int (nI (k)))]) hx hb d_MO_isWordRight_140 hl (by decide) rfl (fun ls hl => ?_)
            refine lv_iload hx hb d_MO_isWordRight_142 (lv_at hl 0 rfl) ?_
            refine lv_if_eq (tgt := 172) hx hb d_MO_isWordRight_144 (by decide) (fun c0 => ?_) (fun c0 => ?_)
            · have c_144 : (fm_w1 (fm_RB f) k && fm_w2 (fm_RB f) k) = false := fm_bI_f c0
              refine lv_iconst (v := nI (0)) hx hb d_MO_isWordRight_172 (by decide) ?_
              exact W.zret (ty := .boolean) hx hb hr (rfl) (fun t ht hW => ⟨_, rfl, by rw [fm_word1, if_neg (Nat.not_lt.mpr c_13)]; first | exact fm_cF1 c_144 | exact fm_cT c_144 (by rw [fm_w3, decide_eq_true c_151]; rfl) | exact fm_cT c_144 (by rw [fm_w3, decide_eq_true (Nat.lt_of_not_le c_165), Bool.or_true]) | exact fm_cF2 (by rw [fm_w3, decide_eq_false c_151, decide_eq_false (Nat.not_lt.mpr c_165)]; rfl), ht⟩) (fun q hq => by cases hq) d_MO_isWordRight_173
            · have c_144 : (fm_w1 (fm_RB f) k && fm_w2 (fm_RB f) k) = true := fm_bI_t c0
              refine lv_iload_n hx hb d_MO_isWordRight_147 rfl (lv_at hl 4 rfl) ?_
              refine lv_sipush (v := nI (128)) hx hb d_MO_isWordRight_148 (by decide) ?_
              refine lv_icmp_eq (tgt := 168) hx hb d_MO_isWordRight_151 (by decide) (fun c0 => ?_) (fun c0 => ?_)
              · have c_151 : fm_AT (fm_RB f) 6 k 0 = 128 := (nI_eq (a := fm_AT (fm_RB f) 6 k 0) (b := 128) (by omega) (by omega)).mp c0
                refine lv_iconst (v := nI (1)) hx hb d_MO_isWordRight_168 (by decide) ?_
                refine lv_goto (tgt := 173) hx hb d_MO_isWordRight_169 (by decide) ?_
                exact W.zret (ty := .boolean) hx hb hr (rfl) (fun t ht hW => ⟨_, rfl, by rw [fm_word1, if_neg (Nat.not_lt.mpr c_13)]; first | exact fm_cF1 c_144 | exact fm_cT c_144 (by rw [fm_w3, decide_eq_true c_151]; rfl) | exact fm_cT c_144 (by rw [fm_w3, decide_eq_true (Nat.lt_of_not_le c_165), Bool.or_true]) | exact fm_cF2 (by rw [fm_w3, decide_eq_false c_151, decide_eq_false (Nat.not_lt.mpr c_165)]; rfl), ht⟩) (fun q hq => by cases hq) d_MO_isWordRight_173
              · have c_151 : ¬ (fm_AT (fm_RB f) 6 k 0 = 128) := fun z => c0 ((nI_eq (a := fm_AT (fm_RB f) 6 k 0) (b := 128) (by omega) (by omega)).mpr z)
                refine lv_iload_n hx hb d_MO_isWordRight_154 rfl (lv_at hl 6 rfl) ?_
                refine lv_iload_n hx hb d_MO_isWordRight_155 rfl (lv_at hl 4 rfl) ?_
                refine lv_iadd hx hb d_MO_isWordRight_156 ?_
                refine fm_tw (z := nI (k + fm_AT (fm_RB f) 6 k 0)) (nI_add _ _) ?_
                refine lv_iconst (v := nI (1)) hx hb d_MO_isWordRight_157 (by decide) ?_
                refine lv_iadd hx hb d_MO_isWordRight_158 ?_
                refine fm_tw (z := nI (k + fm_AT (fm_RB f) 6 k 0 + 1)) (nI_add _ _) ?_
                refine lv_aload_n hx hb d_MO_isWordRight_159 rfl (lv_at hl 5 rfl) ?_
                refine lv_bipush (v := nI (6)) hx hb d_MO_isWordRight_160 (by decide) ?_
                refine fm_cs S (c_MO_words l dC dI fa cB f 6 (by omega) (fun _ => hq)) rfl rfl k_MO_words q_3_175 ⟨Nat.le_of_ble_eq_true rfl, Nat.le_of_ble_eq_true rfl⟩ (hP.sub [0] rfl) (hK.sub [0] rfl) rfl hl.1 rfl (Nat.le_of_ble_eq_true rfl) ⟨Nat.zero_le _, Nat.zero_le _⟩ d_MO_isWordRight_162 ?_
                have f0_162 := fm_WD_le (fm_RB_lt f) 6
                refine lv_icmp_ge (tgt := 172) hx hb d_MO_isWordRight_165 (by decide) (fun c0 => ?_) (fun c0 => ?_)
                · have c_165 : fm_WD (fm_RB f) 6 ≤ k + fm_AT (fm_RB f) 6 k 0 + 1 := (nI_leI (a := fm_WD (fm_RB f) 6) (b := k + fm_AT (fm_RB f) 6 k 0 + 1) (by omega) (by omega)).mp c0
                  refine lv_iconst (v := nI (0)) hx hb d_MO_isWordRight_172 (by decide) ?_
                  exact W.zret (ty := .boolean) hx hb hr (rfl) (fun t ht hW => ⟨_, rfl, by rw [fm_word1, if_neg (Nat.not_lt.mpr c_13)]; first | exact fm_cF1 c_144 | exact fm_cT c_144 (by rw [fm_w3, decide_eq_true c_151]; rfl) | exact fm_cT c_144 (by rw [fm_w3, decide_eq_true (Nat.lt_of_not_le c_165), Bool.or_true]) | exact fm_cF2 (by rw [fm_w3, decide_eq_false c_151, decide_eq_false (Nat.not_lt.mpr c_165)]; rfl), ht⟩) (fun q hq => by cases hq) d_MO_isWordRight_173
                · have c_165 : ¬ (fm_WD (fm_RB f) 6 ≤ k + fm_AT (fm_RB f) 6 k 0 + 1) := fun z => c0 ((nI_leI (a := fm_WD (fm_RB f) 6) (b := k + fm_AT (fm_RB f) 6 k 0 + 1) (by omega) (by omega)).mpr z)
                  refine lv_iconst (v := nI (1)) hx hb d_MO_isWordRight_168 (by decide) ?_
                  refine lv_goto (tgt := 173) hx hb d_MO_isWordRight_169 (by decide) ?_
                  exact W.zret (ty := .boolean) hx hb hr (rfl) (fun t ht hW => ⟨_, rfl, by rw [fm_word1, if_neg (Nat.not_lt.mpr c_13)]; first | exact fm_cF1 c_144 | exact fm_cT c_144 (by rw [fm_w3, decide_eq_true c_151]; rfl) | exact fm_cT c_144 (by rw [fm_w3, decide_eq_true (Nat.lt_of_not_le c_165), Bool.or_true]) | exact fm_cF2 (by rw [fm_w3, decide_eq_false c_151, decide_eq_false (Nat.not_lt.mpr c_165)]; rfl), ht⟩) (fun q hq => by cases hq) d_MO_isWordRight_173
    · have c_70 : (fm_th (fm_RB f) (fm_AT (fm_RB f) 6 k 1)) = false := fm_bI_f c0
      refine lv_iload_n hx hb d_MO_isWordRight_73 rfl (lv_at hl 2 rfl) ?_
      refine lv_aload_n hx hb d_MO_isWordRight_74 rfl (lv_at hl 4 rfl) ?_
      refine fm_cs S (c_MO_edgeOf l dC dI fa cB f (hL)) rfl rfl k_MO_edgeOf q_3_221 ⟨Nat.le_of_ble_eq_true rfl, Nat.le_of_ble_eq_true rfl⟩ (hP.sub [0] rfl) (hK.sub [0] rfl) rfl hl.1 rfl (Nat.le_of_ble_eq_true rfl) ⟨Nat.zero_le _, Nat.zero_le _⟩ d_MO_isWordRight_75 ?_
      refine lv_icmp_ne (tgt := 85) hx hb d_MO_isWordRight_78 (by decide) (fun c0 => ?_) (fun c0 => ?_)
      · have c_78 := c0
        refine lv_iconst (v := nI (0)) hx hb d_MO_isWordRight_85 (by decide) ?_
        refine fm_tw (z := (fm_bI (fm_w1 (fm_RB f) k))) (by first | (refine fm_bI_1 ?_; rw [fm_w1, c_70]; rfl) | (refine fm_bI_1 ?_; rw [fm_w1, decide_eq_true c_78, Bool.or_true]) | (refine fm_bI_0 ?_; rw [fm_w1, c_70, decide_eq_false c_78]; rfl)) ?_
        refine lv_istore (lv' := [(6, .int (fm_bI (fm_w1 (fm_RB f) k))), (5, .int (nI (fm_AT (fm_RB f) 6 k 3))), (4, .int (nI (fm_AT (fm_RB f) 6 k 2))), (3, .int (nI (fm_AT (fm_RB f) 6 k 1))), (2, .int (nI (fm_AT (fm_RB f) 6 k 0))), (0, .ref fa), (1, .int (nI (k)))]) hx hb d_MO_isWordRight_86 hl (by decide) rfl (fun ls hl => ?_)
        refine lv_iload hx hb d_MO_isWordRight_88 (lv_at hl 0 rfl) ?_
        refine lv_if_eq (tgt := 139) hx hb d_MO_isWordRight_90 (by decide) (fun c0 => ?_) (fun c0 => ?_)
        · have c_90 : (fm_w1 (fm_RB f) k) = false := fm_bI_f c0
          refine lv_iconst (v := nI (0)) hx hb d_MO_isWordRight_139 (by decide) ?_
          refine fm_tw (z := (fm_bI (fm_w1 (fm_RB f) k && fm_w2 (fm_RB f) k))) (by first | exact fm_cF1 c_90 | exact fm_cT c_90 (fm_w2_1 c_98 c_107) | exact fm_cF2 (fm_w2_1 c_98 c_107) | exact fm_cT c_90 (fm_w2_t c_98 c_132) | exact fm_cF2 (fm_w2_f c_98 c_132)) ?_
          refine lv_istore (lv' := [(6, .int (fm_bI (fm_w1 (fm_RB f) k && fm_w2 (fm_RB f) k))), (5, .int (nI (fm_AT (fm_RB f) 6 k 3))), (4, .int (nI (fm_AT (fm_RB f) 6 k 2))), (3, .int (nI (fm_AT (fm_RB f) 6 k 1))), (2, .int (nI (fm_AT (fm_RB f) 6 k 0))), (0, .ref fa), (1, .int (nI (k)))]) hx hb d_MO_isWordRight_140 hl (by decide) rfl (fun ls hl => ?_)
          refine lv_iload hx hb d_MO_isWordRight_142 (lv_at hl 0 rfl) ?_
          refine lv_if_eq (tgt := 172) hx hb d_MO_isWordRight_144 (by decide) (fun c0 => ?_) (fun c0 => ?_)
          · have c_144 : (fm_w1 (fm_RB f) k && fm_w2 (fm_RB f) k) = false := fm_bI_f c0
            refine lv_iconst (v := nI (0)) hx hb d_MO_isWordRight_172 (by decide) ?_
            exact W.zret (ty := .boolean) hx hb hr (rfl) (fun t ht hW => ⟨_, rfl, by rw [fm_word1, if_neg (Nat.not_lt.mpr c_13)]; first | exact fm_cF1 c_144 | exact fm_cT c_144 (by rw [fm_w3, decide_eq_true c_151]; rfl) | exact fm_cT c_144 (by rw [fm_w3, decide_eq_true (Nat.lt_of_not_le c_165), Bool.or_true]) | exact fm_cF2 (by rw [fm_w3, decide_eq_false c_151, decide_eq_false (Nat.not_lt.mpr c_165)]; rfl), ht⟩) (fun q hq => by cases hq) d_MO_isWordRight_173
          · have c_144 : (fm_w1 (fm_RB f) k && fm_w2 (fm_RB f) k) = true := fm_bI_t c0
            refine lv_iload_n hx hb d_MO_isWordRight_147 rfl (lv_at hl 4 rfl) ?_
            refine lv_sipush (v := nI (128)) hx hb d_MO_isWordRight_148 (by decide) ?_
            refine lv_icmp_eq (tgt := 168) hx hb d_MO_isWordRight_151 (by decide) (fun c0 => ?_) (fun c0 => ?_)
            · have c_151 : fm_AT (fm_RB f) 6 k 0 = 128 := (nI_eq (a := fm_AT (fm_RB f) 6 k 0) (b := 128) (by omega) (by omega)).mp c0
              refine lv_iconst (v := nI (1)) hx hb d_MO_isWordRight_168 (by decide) ?_
              refine lv_goto (tgt := 173) hx hb d_MO_isWordRight_169 (by decide) ?_
              exact W.zret (ty := .boolean) hx hb hr (rfl) (fun t ht hW => ⟨_, rfl, by rw [fm_word1, if_neg (Nat.not_lt.mpr c_13)]; first | exact fm_cF1 c_144 | exact fm_cT c_144 (by rw [fm_w3, decide_eq_true c_151]; rfl) | exact fm_cT c_144 (by rw [fm_w3, decide_eq_true (Nat.lt_of_not_le c_165), Bool.or_true]) | exact fm_cF2 (by rw [fm_w3, decide_eq_false c_151, decide_eq_false (Nat.not_lt.mpr c_165)]; rfl), ht⟩) (fun q hq => by cases hq) d_MO_isWordRight_173
            · have c_151 : ¬ (fm_AT (fm_RB f) 6 k 0 = 128) := fun z => c0 ((nI_eq (a := fm_AT (fm_RB f) 6 k 0) (b := 128) (by omega) (by omega)).mpr z)
              refine lv_iload_n hx hb d_MO_isWordRight_154 rfl (lv_at hl 6 rfl) ?_
              refine lv_iload_n hx hb d_MO_isWordRight_155 rfl (lv_at hl 4 rfl) ?_
              refine lv_iadd hx hb d_MO_isWordRight_156 ?_
              refine fm_tw (z := nI (k + fm_AT (fm_RB f) 6 k 0)) (nI_add _ _) ?_
              refine lv_iconst (v := nI (1)) hx hb d_MO_isWordRight_157 (by decide) ?_
              refine lv_iadd hx hb d_MO_isWordRight_158 ?_
              refine fm_tw (z := nI (k + fm_AT (fm_RB f) 6 k 0 + 1)) (nI_add _ _) ?_
              refine lv_aload_n hx hb d_MO_isWordRight_159 rfl (lv_at hl 5 rfl) ?_
              refine lv_bipush (v := nI (6)) hx hb d_MO_isWordRight_160 (by decide) ?_
              refine fm_cs S (c_MO_words l dC dI fa cB f 6 (by omega) (fun _ => hq)) rfl rfl k_MO_words q_3_175 ⟨Nat.le_of_ble_eq_true rfl, Nat.le_of_ble_eq_true rfl⟩ (hP.sub [0] rfl) (hK.sub [0] rfl) rfl hl.1 rfl (Nat.le_of_ble_eq_true rfl) ⟨Nat.zero_le _, Nat.zero_le _⟩ d_MO_isWordRight_162 ?_
              have f0_162 := fm_WD_le (fm_RB_lt f) 6
              refine lv_icmp_ge (tgt := 172) hx hb d_MO_isWordRight_165 (by decide) (fun c0 => ?_) (fun c0 => ?_)
              · have c_165 : fm_WD (fm_RB f) 6 ≤ k + fm_AT (fm_RB f) 6 k 0 + 1 := (nI_leI (a := fm_WD (fm_RB f) 6) (b := k + fm_AT (fm_RB f) 6 k 0 + 1) (by omega) (by omega)).mp c0
                refine lv_iconst (v := nI (0)) hx hb d_MO_isWordRight_172 (by decide) ?_
                exact W.zret (ty := .boolean) hx hb hr (rfl) (fun t ht hW => ⟨_, rfl, by rw [fm_word1, if_neg (Nat.not_lt.mpr c_13)]; first | exact fm_cF1 c_144 | exact fm_cT c_144 (by rw [fm_w3, decide_eq_true c_151]; rfl) | exact fm_cT c_144 (by rw [fm_w3, decide_eq_true (Nat.lt_of_not_le c_165), Bool.or_true]) | exact fm_cF2 (by rw [fm_w3, decide_eq_false c_151, decide_eq_false (Nat.not_lt.mpr c_165)]; rfl), ht⟩) (fun q hq => by cases hq) d_MO_isWordRight_173
              · have c_165 : ¬ (fm_WD (fm_RB f) 6 ≤ k + fm_AT (fm_RB f) 6 k 0 + 1) := fun z => c0 ((nI_leI (a := fm_WD (fm_RB f) 6) (b := k + fm_AT (fm_RB f) 6 k 0 + 1) (by omega) (by omega)).mpr z)
                refine lv_iconst (v := nI (1)) hx hb d_MO_isWordRight_168 (by decide) ?_
                refine lv_goto (tgt := 173) hx hb d_MO_isWordRight_169 (by decide) ?_
                exact W.zret (ty := .boolean) hx hb hr (rfl) (fun t ht hW => ⟨_, rfl, by rw [fm_word1, if_neg (Nat.not_lt.mpr c_13)]; first | exact fm_cF1 c_144 | exact fm_cT c_144 (by rw [fm_w3, decide_eq_true c_151]; rfl) | exact fm_cT c_144 (by rw [fm_w3, decide_eq_true (Nat.lt_of_not_le c_165), Bool.or_true]) | exact fm_cF2 (by rw [fm_w3, decide_eq_false c_151, decide_eq_false (Nat.not_lt.mpr c_165)]; rfl), ht⟩) (fun q hq => by cases hq) d_MO_isWordRight_173
        · have c_90 : (fm_w1 (fm_RB f) k) = true := fm_bI_t c0
          refine lv_iload hx hb d_MO_isWordRight_93 (lv_at hl 2 rfl) ?_
          refine lv_sipush (v := nI (128)) hx hb d_MO_isWordRight_95 (by decide) ?_
          refine lv_icmp_ge (tgt := 113) hx hb d_MO_isWordRight_98 (by decide) (fun c0 => ?_) (fun c0 => ?_)
          · have c_98 : 128 ≤ fm_AT (fm_RB f) 6 k 2 := (nI_leI (a := 128) (b := fm_AT (fm_RB f) 6 k 2) (by omega) (by omega)).mp c0
            refine lv_sipush (v := nI (256)) hx hb d_MO_isWordRight_113 (by decide) ?_
            refine lv_iload hx hb d_MO_isWordRight_116 (lv_at hl 2 rfl) ?_
            refine lv_sipush (v := nI (128)) hx hb d_MO_isWordRight_118 (by decide) ?_
            refine lv_isub hx hb d_MO_isWordRight_121 ?_
            refine fm_tw (z := nI (fm_AT (fm_RB f) 6 k 2 - 128)) (pk_sub (by omega)) ?_
            refine lv_imul hx hb d_MO_isWordRight_122 ?_
            refine fm_tw (z := nI (256 * (fm_AT (fm_RB f) 6 k 2 - 128))) (pk_mul _ _) ?_
            refine lv_iload hx hb d_MO_isWordRight_123 (lv_at hl 1 rfl) ?_
            refine lv_iadd hx hb d_MO_isWordRight_125 ?_
            refine fm_tw (z := nI (256 * (fm_AT (fm_RB f) 6 k 2 - 128) + fm_AT (fm_RB f) 6 k 3)) (nI_add _ _) ?_
            refine lv_aload_n hx hb d_MO_isWordRight_126 rfl (lv_at hl 5 rfl) ?_
            refine lv_bipush (v := nI (7)) hx hb d_MO_isWordRight_127 (by decide) ?_
            refine fm_cs S (c_MO_words l dC dI fa cB f 7 (by omega) (fun _ => hq)) rfl rfl k_MO_words q_3_175 ⟨Nat.le_of_ble_eq_true rfl, Nat.le_of_ble_eq_true rfl⟩ (hP.sub [0] rfl) (hK.sub [0] rfl) rfl hl.1 rfl (Nat.le_of_ble_eq_true rfl) ⟨Nat.zero_le _, Nat.zero_le _⟩ d_MO_isWordRight_129 ?_
            have f0_129 := fm_WD_le (fm_RB_lt f) 7
            refine lv_icmp_ge (tgt := 139) hx hb d_MO_isWordRight_132 (by decide) (fun c0 => ?_) (fun c0 => ?_)
            · have c_132 : fm_WD (fm_RB f) 7 ≤ 256 * (fm_AT (fm_RB f) 6 k 2 - 128) + fm_AT (fm_RB f) 6 k 3 := (nI_leI (a := fm_WD (fm_RB f) 7) (b := 256 * (fm_AT (fm_RB f) 6 k 2 - 128) + fm_AT (fm_RB f) 6 k 3) (by omega) (by omega)).mp c0
              refine lv_iconst (v := nI (0)) hx hb d_MO_isWordRight_139 (by decide) ?_
              refine fm_tw (z := (fm_bI (fm_w1 (fm_RB f) k && fm_w2 (fm_RB f) k))) (by first | exact fm_cF1 c_90 | exact fm_cT c_90 (fm_w2_1 c_98 c_107) | exact fm_cF2 (fm_w2_1 c_98 c_107) | exact fm_cT c_90 (fm_w2_t c_98 c_132) | exact fm_cF2 (fm_w2_f c_98 c_132)) ?_
              refine lv_istore (lv' := [(6, .int (fm_bI (fm_w1 (fm_RB f) k && fm_w2 (fm_RB f) k))), (5, .int (nI (fm_AT (fm_RB f) 6 k 3))), (4, .int (nI (fm_AT (fm_RB f) 6 k 2))), (3, .int (nI (fm_AT (fm_RB f) 6 k 1))), (2, .int (nI (fm_AT (fm_RB f) 6 k 0))), (0, .ref fa), (1, .int (nI (k)))]) hx hb d_MO_isWordRight_140 hl (by decide) rfl (fun ls hl => ?_)
              refine lv_iload hx hb d_MO_isWordRight_142 (lv_at hl 0 rfl) ?_
              refine lv_if_eq (tgt := 172) hx hb d_MO_isWordRight_144 (by decide) (fun c0 => ?_) (fun c0 => ?_)
              · have c_144 : (fm_w1 (fm_RB f) k && fm_w2 (fm_RB f) k) = false := fm_bI_f c0
                refine lv_iconst (v := nI (0)) hx hb d_MO_isWordRight_172 (by decide) ?_
                exact W.zret (ty := .boolean) hx hb hr (rfl) (fun t ht hW => ⟨_, rfl, by rw [fm_word1, if_neg (Nat.not_lt.mpr c_13)]; first | exact fm_cF1 c_144 | exact fm_cT c_144 (by rw [fm_w3, decide_eq_true c_151]; rfl) | exact fm_cT c_144 (by rw [fm_w3, decide_eq_true (Nat.lt_of_not_le c_165), Bool.or_true]) | exact fm_cF2 (by rw [fm_w3, decide_eq_false c_151, decide_eq_false (Nat.not_lt.mpr c_165)]; rfl), ht⟩) (fun q hq => by cases hq) d_MO_isWordRight_173
              · have c_144 : (fm_w1 (fm_RB f) k && fm_w2 (fm_RB f) k) = true := fm_bI_t c0
                refine lv_iload_n hx hb d_MO_isWordRight_147 rfl (lv_at hl 4 rfl) ?_
                refine lv_sipush (v := nI (128)) hx hb d_MO_isWordRight_148 (by decide) ?_
                refine lv_icmp_eq (tgt := 168) hx hb d_MO_isWordRight_151 (by decide) (fun c0 => ?_) (fun c0 => ?_)
                · have c_151 : fm_AT (fm_RB f) 6 k 0 = 128 := (nI_eq (a := fm_AT (fm_RB f) 6 k 0) (b := 128) (by omega) (by omega)).mp c0
                  refine lv_iconst (v := nI (1)) hx hb d_MO_isWordRight_168 (by decide) ?_
                  refine lv_goto (tgt := 173) hx hb d_MO_isWordRight_169 (by decide) ?_
                  exact W.zret (ty := .boolean) hx hb hr (rfl) (fun t ht hW => ⟨_, rfl, by rw [fm_word1, if_neg (Nat.not_lt.mpr c_13)]; first | exact fm_cF1 c_144 | exact fm_cT c_144 (by rw [fm_w3, decide_eq_true c_151]; rfl) | exact fm_cT c_144 (by rw [fm_w3, decide_eq_true (Nat.lt_of_not_le c_165), Bool.or_true]) | exact fm_cF2 (by rw [fm_w3, decide_eq_false c_151, decide_eq_false (Nat.not_lt.mpr c_165)]; rfl), ht⟩) (fun q hq => by cases hq) d_MO_isWordRight_173
                · have c_151 : ¬ (fm_AT (fm_RB f) 6 k 0 = 128) := fun z => c0 ((nI_eq (a := fm_AT (fm_RB f) 6 k 0) (b := 128) (by omega) (by omega)).mpr z)
                  refine lv_iload_n hx hb d_MO_isWordRight_154 rfl (lv_at hl 6 rfl) ?_
                  refine lv_iload_n hx hb d_MO_isWordRight_155 rfl (lv_at hl 4 rfl) ?_
                  refine lv_iadd hx hb d_MO_isWordRight_156 ?_
                  refine fm_tw (z := nI (k + fm_AT (fm_RB f) 6 k 0)) (nI_add _ _) ?_
                  refine lv_iconst (v := nI (1)) hx hb d_MO_isWordRight_157 (by decide) ?_
                  refine lv_iadd hx hb d_MO_isWordRight_158 ?_
                  refine fm_tw (z := nI (k + fm_AT (fm_RB f) 6 k 0 + 1)) (nI_add _ _) ?_
                  refine lv_aload_n hx hb d_MO_isWordRight_159 rfl (lv_at hl 5 rfl) ?_
                  refine lv_bipush (v := nI (6)) hx hb d_MO_isWordRight_160 (by decide) ?_
                  refine fm_cs S (c_MO_words l dC dI fa cB f 6 (by omega) (fun _ => hq)) rfl rfl k_MO_words q_3_175 ⟨Nat.le_of_ble_eq_true rfl, Nat.le_of_ble_eq_true rfl⟩ (hP.sub [0] rfl) (hK.sub [0] rfl) rfl hl.1 rfl (Nat.le_of_ble_eq_true rfl) ⟨Nat.zero_le _, Nat.zero_le _⟩ d_MO_isWordRight_162 ?_
                  have f0_162 := fm_WD_le (fm_RB_lt f) 6
                  refine lv_icmp_ge (tgt := 172) hx hb d_MO_isWordRight_165 (by decide) (fun c0 => ?_) (fun c0 => ?_)
                  · have c_165 : fm_WD (fm_RB f) 6 ≤ k + fm_AT (fm_RB f) 6 k 0 + 1 := (nI_leI (a := fm_WD (fm_RB f) 6) (b := k + fm_AT (fm_RB f) 6 k 0 + 1) (by omega) (by omega)).mp c0
                    refine lv_iconst (v := nI (0)) hx hb d_MO_isWordRight_172 (by decide) ?_
                    exact W.zret (ty := .boolean) hx hb hr (rfl) (fun t ht hW => ⟨_, rfl, by rw [fm_word1, if_neg (Nat.not_lt.mpr c_13)]; first | exact fm_cF1 c_144 | exact fm_cT c_144 (by rw [fm_w3, decide_eq_true c_151]; rfl) | exact fm_cT c_144 (by rw [fm_w3, decide_eq_true (Nat.lt_of_not_le c_165), Bool.or_true]) | exact fm_cF2 (by rw [fm_w3, decide_eq_false c_151, decide_eq_false (Nat.not_lt.mpr c_165)]; rfl), ht⟩) (fun q hq => by cases hq) d_MO_isWordRight_173
                  · have c_165 : ¬ (fm_WD (fm_RB f) 6 ≤ k + fm_AT (fm_RB f) 6 k 0 + 1) := fun z => c0 ((nI_leI (a := fm_WD (fm_RB f) 6) (b := k + fm_AT (fm_RB f) 6 k 0 + 1) (by omega) (by omega)).mpr z)
                    refine lv_iconst (v := nI (1)) hx hb d_MO_isWordRight_168 (by decide) ?_
                    refine lv_goto (tgt := 173) hx hb d_MO_isWordRight_169 (by decide) ?_
                    exact W.zret (ty := .boolean) hx hb hr (rfl) (fun t ht hW => ⟨_, rfl, by rw [fm_word1, if_neg (Nat.not_lt.mpr c_13)]; first | exact fm_cF1 c_144 | exact fm_cT c_144 (by rw [fm_w3, decide_eq_true c_151]; rfl) | exact fm_cT c_144 (by rw [fm_w3, decide_eq_true (Nat.lt_of_not_le c_165), Bool.or_true]) | exact fm_cF2 (by rw [fm_w3, decide_eq_false c_151, decide_eq_false (Nat.not_lt.mpr c_165)]; rfl), ht⟩) (fun q hq => by cases hq) d_MO_isWordRight_173
            · have c_132 : ¬ (fm_WD (fm_RB f) 7 ≤ 256 * (fm_AT (fm_RB f) 6 k 2 - 128) + fm_AT (fm_RB f) 6 k 3) := fun z => c0 ((nI_leI (a := fm_WD (fm_RB f) 7) (b := 256 * (fm_AT (fm_RB f) 6 k 2 - 128) + fm_AT (fm_RB f) 6 k 3) (by omega) (by omega)).mpr z)
              refine lv_iconst (v := nI (1)) hx hb d_MO_isWordRight_135 (by decide) ?_
              refine lv_goto (tgt := 140) hx hb d_MO_isWordRight_136 (by decide) ?_
              refine fm_tw (z := (fm_bI (fm_w1 (fm_RB f) k && fm_w2 (fm_RB f) k))) (by first | exact fm_cF1 c_90 | exact fm_cT c_90 (fm_w2_1 c_98 c_107) | exact fm_cF2 (fm_w2_1 c_98 c_107) | exact fm_cT c_90 (fm_w2_t c_98 c_132) | exact fm_cF2 (fm_w2_f c_98 c_132)) ?_
              refine lv_istore (lv' := [(6, .int (fm_bI (fm_w1 (fm_RB f) k && fm_w2 (fm_RB f) k))), (5, .int (nI (fm_AT (fm_RB f) 6 k 3))), (4, .int (nI (fm_AT (fm_RB f) 6 k 2))), (3, .int (nI (fm_AT (fm_RB f) 6 k 1))), (2, .int (nI (fm_AT (fm_RB f) 6 k 0))), (0, .ref fa), (1, .int (nI (k)))]) hx hb d_MO_isWordRight_140 hl (by decide) rfl (fun ls hl => ?_)
              refine lv_iload hx hb d_MO_isWordRight_142 (lv_at hl 0 rfl) ?_
              refine lv_if_eq (tgt := 172) hx hb d_MO_isWordRight_144 (by decide) (fun c0 => ?_) (fun c0 => ?_)
              · have c_144 : (fm_w1 (fm_RB f) k && fm_w2 (fm_RB f) k) = false := fm_bI_f c0
                refine lv_iconst (v := nI (0)) hx hb d_MO_isWordRight_172 (by decide) ?_
                exact W.zret (ty := .boolean) hx hb hr (rfl) (fun t ht hW => ⟨_, rfl, by rw [fm_word1, if_neg (Nat.not_lt.mpr c_13)]; first | exact fm_cF1 c_144 | exact fm_cT c_144 (by rw [fm_w3, decide_eq_true c_151]; rfl) | exact fm_cT c_144 (by rw [fm_w3, decide_eq_true (Nat.lt_of_not_le c_165), Bool.or_true]) | exact fm_cF2 (by rw [fm_w3, decide_eq_false c_151, decide_eq_false (Nat.not_lt.mpr c_165)]; rfl), ht⟩) (fun q hq => by cases hq) d_MO_isWordRight_173
              · have c_144 : (fm_w1 (fm_RB f) k && fm_w2 (fm_RB f) k) = true := fm_bI_t c0
                refine lv_iload_n hx hb d_MO_isWordRight_147 rfl (lv_at hl 4 rfl) ?_
                refine lv_sipush (v := nI (128)) hx hb d_MO_isWordRight_148 (by decide) ?_
                refine lv_icmp_eq (tgt := 168) hx hb d_MO_isWordRight_151 (by decide) (fun c0 => ?_) (fun c0 => ?_)
                · have c_151 : fm_AT (fm_RB f) 6 k 0 = 128 := (nI_eq (a := fm_AT (fm_RB f) 6 k 0) (b := 128) (by omega) (by omega)).mp c0
                  refine lv_iconst (v := nI (1)) hx hb d_MO_isWordRight_168 (by decide) ?_
                  refine lv_goto (tgt := 173) hx hb d_MO_isWordRight_169 (by decide) ?_
                  exact W.zret (ty := .boolean) hx hb hr (rfl) (fun t ht hW => ⟨_, rfl, by rw [fm_word1, if_neg (Nat.not_lt.mpr c_13)]; first | exact fm_cF1 c_144 | exact fm_cT c_144 (by rw [fm_w3, decide_eq_true c_151]; rfl) | exact fm_cT c_144 (by rw [fm_w3, decide_eq_true (Nat.lt_of_not_le c_165), Bool.or_true]) | exact fm_cF2 (by rw [fm_w3, decide_eq_false c_151, decide_eq_false (Nat.not_lt.mpr c_165)]; rfl), ht⟩) (fun q hq => by cases hq) d_MO_isWordRight_173
                · have c_151 : ¬ (fm_AT (fm_RB f) 6 k 0 = 128) := fun z => c0 ((nI_eq (a := fm_AT (fm_RB f) 6 k 0) (b := 128) (by omega) (by omega)).mpr z)
                  refine lv_iload_n hx hb d_MO_isWordRight_154 rfl (lv_at hl 6 rfl) ?_
                  refine lv_iload_n hx hb d_MO_isWordRight_155 rfl (lv_at hl 4 rfl) ?_
                  refine lv_iadd hx hb d_MO_isWordRight_156 ?_
                  refine fm_tw (z := nI (k + fm_AT (fm_RB f) 6 k 0)) (nI_add _ _) ?_
                  refine lv_iconst (v := nI (1)) hx hb d_MO_isWordRight_157 (by decide) ?_
                  refine lv_iadd hx hb d_MO_isWordRight_158 ?_
                  refine fm_tw (z := nI (k + fm_AT (fm_RB f) 6 k 0 + 1)) (nI_add _ _) ?_
                  refine lv_aload_n hx hb d_MO_isWordRight_159 rfl (lv_at hl 5 rfl) ?_
                  refine lv_bipush (v := nI (6)) hx hb d_MO_isWordRight_160 (by decide) ?_
                  refine fm_cs S (c_MO_words l dC dI fa cB f 6 (by omega) (fun _ => hq)) rfl rfl k_MO_words q_3_175 ⟨Nat.le_of_ble_eq_true rfl, Nat.le_of_ble_eq_true rfl⟩ (hP.sub [0] rfl) (hK.sub [0] rfl) rfl hl.1 rfl (Nat.le_of_ble_eq_true rfl) ⟨Nat.zero_le _, Nat.zero_le _⟩ d_MO_isWordRight_162 ?_
                  have f0_162 := fm_WD_le (fm_RB_lt f) 6
                  refine lv_icmp_ge (tgt := 172) hx hb d_MO_isWordRight_165 (by decide) (fun c0 => ?_) (fun c0 => ?_)
                  · have c_165 : fm_WD (fm_RB f) 6 ≤ k + fm_AT (fm_RB f) 6 k 0 + 1 := (nI_leI (a := fm_WD (fm_RB f) 6) (b := k + fm_AT (fm_RB f) 6 k 0 + 1) (by omega) (by omega)).mp c0
                    refine lv_iconst (v := nI (0)) hx hb d_MO_isWordRight_172 (by decide) ?_
                    exact W.zret (ty := .boolean) hx hb hr (rfl) (fun t ht hW => ⟨_, rfl, by rw [fm_word1, if_neg (Nat.not_lt.mpr c_13)]; first | exact fm_cF1 c_144 | exact fm_cT c_144 (by rw [fm_w3, decide_eq_true c_151]; rfl) | exact fm_cT c_144 (by rw [fm_w3, decide_eq_true (Nat.lt_of_not_le c_165), Bool.or_true]) | exact fm_cF2 (by rw [fm_w3, decide_eq_false c_151, decide_eq_false (Nat.not_lt.mpr c_165)]; rfl), ht⟩) (fun q hq => by cases hq) d_MO_isWordRight_173
                  · have c_165 : ¬ (fm_WD (fm_RB f) 6 ≤ k + fm_AT (fm_RB f) 6 k 0 + 1) := fun z => c0 ((nI_leI (a := fm_WD (fm_RB f) 6) (b := k + fm_AT (fm_RB f) 6 k 0 + 1) (by omega) (by omega)).mpr z)
                    refine lv_iconst (v := nI (1)) hx hb d_MO_isWordRight_168 (by decide) ?_
                    refine lv_goto (tgt := 173) hx hb d_MO_isWordRight_169 (by decide) ?_
                    exact W.zret (ty := .boolean) hx hb hr (rfl) (fun t ht hW => ⟨_, rfl, by rw [fm_word1, if_neg (Nat.not_lt.mpr c_13)]; first | exact fm_cF1 c_144 | exact fm_cT c_144 (by rw [fm_w3, decide_eq_true c_151]; rfl) | exact fm_cT c_144 (by rw [fm_w3, decide_eq_true (Nat.lt_of_not_le c_165), Bool.or_true]) | exact fm_cF2 (by rw [fm_w3, decide_eq_false c_151, decide_eq_false (Nat.not_lt.mpr c_165)]; rfl), ht⟩) (fun q hq => by cases hq) d_MO_isWordRight_173
          · have c_98 : ¬ (128 ≤ fm_AT (fm_RB f) 6 k 2) := fun z => c0 ((nI_leI (a := 128) (b := fm_AT (fm_RB f) 6 k 2) (by omega) (by omega)).mpr z)
            refine lv_aload_n hx hb d_MO_isWordRight_101 rfl (lv_at hl 5 rfl) ?_
            refine lv_iload hx hb d_MO_isWordRight_102 (lv_at hl 1 rfl) ?_
            refine fm_cs S (c_MO_isThereN l dC dI fa cB f (fm_AT (fm_RB f) 6 k 3) (by omega) (hL)) rfl rfl k_MO_isThere q_3_194 ⟨Nat.le_of_ble_eq_true rfl, Nat.le_of_ble_eq_true rfl⟩ (hP.sub [0] rfl) (hK.sub [0] rfl) rfl hl.1 rfl (Nat.le_of_ble_eq_true rfl) ⟨Nat.zero_le _, Nat.zero_le _⟩ d_MO_isWordRight_104 ?_
            refine lv_if_eq (tgt := 139) hx hb d_MO_isWordRight_107 (by decide) (fun c0 => ?_) (fun c0 => ?_)
            · have c_107 : (fm_th (fm_RB f) (fm_AT (fm_RB f) 6 k 3)) = false := fm_bI_f c0
              refine lv_iconst (v := nI (0)) hx hb d_MO_isWordRight_139 (by decide) ?_
              refine fm_tw (z := (fm_bI (fm_w1 (fm_RB f) k && fm_w2 (fm_RB f) k))) (by first | exact fm_cF1 c_90 | exact fm_cT c_90 (fm_w2_1 c_98 c_107) | exact fm_cF2 (fm_w2_1 c_98 c_107) | exact fm_cT c_90 (fm_w2_t c_98 c_132) | exact fm_cF2 (fm_w2_f c_98 c_132)) ?_
              refine lv_istore (lv' := [(6, .int (fm_bI (fm_w1 (fm_RB f) k && fm_w2 (fm_RB f) k))), (5, .int (nI (fm_AT (fm_RB f) 6 k 3))), (4, .int (nI (fm_AT (fm_RB f) 6 k 2))), (3, .int (nI (fm_AT (fm_RB f) 6 k 1))), (2, .int (nI (fm_AT (fm_RB f) 6 k 0))), (0, .ref fa), (1, .int (nI (k)))]) hx hb d_MO_isWordRight_140 hl (by decide) rfl (fun ls hl => ?_)
              refine lv_iload hx hb d_MO_isWordRight_142 (lv_at hl 0 rfl) ?_
              refine lv_if_eq (tgt := 172) hx hb d_MO_isWordRight_144 (by decide) (fun c0 => ?_) (fun c0 => ?_)
              · have c_144 : (fm_w1 (fm_RB f) k && fm_w2 (fm_RB f) k) = false := fm_bI_f c0
                refine lv_iconst (v := nI (0)) hx hb d_MO_isWordRight_172 (by decide) ?_
                exact W.zret (ty := .boolean) hx hb hr (rfl) (fun t ht hW => ⟨_, rfl, by rw [fm_word1, if_neg (Nat.not_lt.mpr c_13)]; first | exact fm_cF1 c_144 | exact fm_cT c_144 (by rw [fm_w3, decide_eq_true c_151]; rfl) | exact fm_cT c_144 (by rw [fm_w3, decide_eq_true (Nat.lt_of_not_le c_165), Bool.or_true]) | exact fm_cF2 (by rw [fm_w3, decide_eq_false c_151, decide_eq_false (Nat.not_lt.mpr c_165)]; rfl), ht⟩) (fun q hq => by cases hq) d_MO_isWordRight_173
              · have c_144 : (fm_w1 (fm_RB f) k && fm_w2 (fm_RB f) k) = true := fm_bI_t c0
                refine lv_iload_n hx hb d_MO_isWordRight_147 rfl (lv_at hl 4 rfl) ?_
                refine lv_sipush (v := nI (128)) hx hb d_MO_isWordRight_148 (by decide) ?_
                refine lv_icmp_eq (tgt := 168) hx hb d_MO_isWordRight_151 (by decide) (fun c0 => ?_) (fun c0 => ?_)
                · have c_151 : fm_AT (fm_RB f) 6 k 0 = 128 := (nI_eq (a := fm_AT (fm_RB f) 6 k 0) (b := 128) (by omega) (by omega)).mp c0
                  refine lv_iconst (v := nI (1)) hx hb d_MO_isWordRight_168 (by decide) ?_
                  refine lv_goto (tgt := 173) hx hb d_MO_isWordRight_169 (by decide) ?_
                  exact W.zret (ty := .boolean) hx hb hr (rfl) (fun t ht hW => ⟨_, rfl, by rw [fm_word1, if_neg (Nat.not_lt.mpr c_13)]; first | exact fm_cF1 c_144 | exact fm_cT c_144 (by rw [fm_w3, decide_eq_true c_151]; rfl) | exact fm_cT c_144 (by rw [fm_w3, decide_eq_true (Nat.lt_of_not_le c_165), Bool.or_true]) | exact fm_cF2 (by rw [fm_w3, decide_eq_false c_151, decide_eq_false (Nat.not_lt.mpr c_165)]; rfl), ht⟩) (fun q hq => by cases hq) d_MO_isWordRight_173
                · have c_151 : ¬ (fm_AT (fm_RB f) 6 k 0 = 128) := fun z => c0 ((nI_eq (a := fm_AT (fm_RB f) 6 k 0) (b := 128) (by omega) (by omega)).mpr z)
                  refine lv_iload_n hx hb d_MO_isWordRight_154 rfl (lv_at hl 6 rfl) ?_
                  refine lv_iload_n hx hb d_MO_isWordRight_155 rfl (lv_at hl 4 rfl) ?_
                  refine lv_iadd hx hb d_MO_isWordRight_156 ?_
                  refine fm_tw (z := nI (k + fm_AT (fm_RB f) 6 k 0)) (nI_add _ _) ?_
                  refine lv_iconst (v := nI (1)) hx hb d_MO_isWordRight_157 (by decide) ?_
                  refine lv_iadd hx hb d_MO_isWordRight_158 ?_
                  refine fm_tw (z := nI (k + fm_AT (fm_RB f) 6 k 0 + 1)) (nI_add _ _) ?_
                  refine lv_aload_n hx hb d_MO_isWordRight_159 rfl (lv_at hl 5 rfl) ?_
                  refine lv_bipush (v := nI (6)) hx hb d_MO_isWordRight_160 (by decide) ?_
                  refine fm_cs S (c_MO_words l dC dI fa cB f 6 (by omega) (fun _ => hq)) rfl rfl k_MO_words q_3_175 ⟨Nat.le_of_ble_eq_true rfl, Nat.le_of_ble_eq_true rfl⟩ (hP.sub [0] rfl) (hK.sub [0] rfl) rfl hl.1 rfl (Nat.le_of_ble_eq_true rfl) ⟨Nat.zero_le _, Nat.zero_le _⟩ d_MO_isWordRight_162 ?_
                  have f0_162 := fm_WD_le (fm_RB_lt f) 6
                  refine lv_icmp_ge (tgt := 172) hx hb d_MO_isWordRight_165 (by decide) (fun c0 => ?_) (fun c0 => ?_)
                  · have c_165 : fm_WD (fm_RB f) 6 ≤ k + fm_AT (fm_RB f) 6 k 0 + 1 := (nI_leI (a := fm_WD (fm_RB f) 6) (b := k + fm_AT (fm_RB f) 6 k 0 + 1) (by omega) (by omega)).mp c0
                    refine lv_iconst (v := nI (0)) hx hb d_MO_isWordRight_172 (by decide) ?_
                    exact W.zret (ty := .boolean) hx hb hr (rfl) (fun t ht hW => ⟨_, rfl, by rw [fm_word1, if_neg (Nat.not_lt.mpr c_13)]; first | exact fm_cF1 c_144 | exact fm_cT c_144 (by rw [fm_w3, decide_eq_true c_151]; rfl) | exact fm_cT c_144 (by rw [fm_w3, decide_eq_true (Nat.lt_of_not_le c_165), Bool.or_true]) | exact fm_cF2 (by rw [fm_w3, decide_eq_false c_151, decide_eq_false (Nat.not_lt.mpr c_165)]; rfl), ht⟩) (fun q hq => by cases hq) d_MO_isWordRight_173
                  · have c_165 : ¬ (fm_WD (fm_RB f) 6 ≤ k + fm_AT (fm_RB f) 6 k 0 + 1) := fun z => c0 ((nI_leI (a := fm_WD (fm_RB f) 6) (b := k + fm_AT (fm_RB f) 6 k 0 + 1) (by omega) (by omega)).mpr z)
                    refine lv_iconst (v := nI (1)) hx hb d_MO_isWordRight_168 (by decide) ?_
                    refine lv_goto (tgt := 173) hx hb d_MO_isWordRight_169 (by decide) ?_
                    exact W.zret (ty := .boolean) hx hb hr (rfl) (fun t ht hW => ⟨_, rfl, by rw [fm_word1, if_neg (Nat.not_lt.mpr c_13)]; first | exact fm_cF1 c_144 | exact fm_cT c_144 (by rw [fm_w3, decide_eq_true c_151]; rfl) | exact fm_cT c_144 (by rw [fm_w3, decide_eq_true (Nat.lt_of_not_le c_165), Bool.or_true]) | exact fm_cF2 (by rw [fm_w3, decide_eq_false c_151, decide_eq_false (Nat.not_lt.mpr c_165)]; rfl), ht⟩) (fun q hq => by cases hq) d_MO_isWordRight_173
            · have c_107 : (fm_th (fm_RB f) (fm_AT (fm_RB f) 6 k 3)) = true := fm_bI_t c0
              refine lv_goto (tgt := 135) hx hb d_MO_isWordRight_110 (by decide) ?_
              refine lv_iconst (v := nI (1)) hx hb d_MO_isWordRight_135 (by decide) ?_
              refine lv_goto (tgt := 140) hx hb d_MO_isWordRight_136 (by decide) ?_
              refine fm_tw (z := (fm_bI (fm_w1 (fm_RB f) k && fm_w2 (fm_RB f) k))) (by first | exact fm_cF1 c_90 | exact fm_cT c_90 (fm_w2_1 c_98 c_107) | exact fm_cF2 (fm_w2_1 c_98 c_107) | exact fm_cT c_90 (fm_w2_t c_98 c_132) | exact fm_cF2 (fm_w2_f c_98 c_132)) ?_
              refine lv_istore (lv' := [(6, .int (fm_bI (fm_w1 (fm_RB f) k && fm_w2 (fm_RB f) k))), (5, .int (nI (fm_AT (fm_RB f) 6 k 3))), (4, .int (nI (fm_AT (fm_RB f) 6 k 2))), (3, .int (nI (fm_AT (fm_RB f) 6 k 1))), (2, .int (nI (fm_AT (fm_RB f) 6 k 0))), (0, .ref fa), (1, .int (nI (k)))]) hx hb d_MO_isWordRight_140 hl (by decide) rfl (fun ls hl => ?_)
              refine lv_iload hx hb d_MO_isWordRight_142 (lv_at hl 0 rfl) ?_
              refine lv_if_eq (tgt := 172) hx hb d_MO_isWordRight_144 (by decide) (fun c0 => ?_) (fun c0 => ?_)
              · have c_144 : (fm_w1 (fm_RB f) k && fm_w2 (fm_RB f) k) = false := fm_bI_f c0
                refine lv_iconst (v := nI (0)) hx hb d_MO_isWordRight_172 (by decide) ?_
                exact W.zret (ty := .boolean) hx hb hr (rfl) (fun t ht hW => ⟨_, rfl, by rw [fm_word1, if_neg (Nat.not_lt.mpr c_13)]; first | exact fm_cF1 c_144 | exact fm_cT c_144 (by rw [fm_w3, decide_eq_true c_151]; rfl) | exact fm_cT c_144 (by rw [fm_w3, decide_eq_true (Nat.lt_of_not_le c_165), Bool.or_true]) | exact fm_cF2 (by rw [fm_w3, decide_eq_false c_151, decide_eq_false (Nat.not_lt.mpr c_165)]; rfl), ht⟩) (fun q hq => by cases hq) d_MO_isWordRight_173
              · have c_144 : (fm_w1 (fm_RB f) k && fm_w2 (fm_RB f) k) = true := fm_bI_t c0
                refine lv_iload_n hx hb d_MO_isWordRight_147 rfl (lv_at hl 4 rfl) ?_
                refine lv_sipush (v := nI (128)) hx hb d_MO_isWordRight_148 (by decide) ?_
                refine lv_icmp_eq (tgt := 168) hx hb d_MO_isWordRight_151 (by decide) (fun c0 => ?_) (fun c0 => ?_)
                · have c_151 : fm_AT (fm_RB f) 6 k 0 = 128 := (nI_eq (a := fm_AT (fm_RB f) 6 k 0) (b := 128) (by omega) (by omega)).mp c0
                  refine lv_iconst (v := nI (1)) hx hb d_MO_isWordRight_168 (by decide) ?_
                  refine lv_goto (tgt := 173) hx hb d_MO_isWordRight_169 (by decide) ?_
                  exact W.zret (ty := .boolean) hx hb hr (rfl) (fun t ht hW => ⟨_, rfl, by rw [fm_word1, if_neg (Nat.not_lt.mpr c_13)]; first | exact fm_cF1 c_144 | exact fm_cT c_144 (by rw [fm_w3, decide_eq_true c_151]; rfl) | exact fm_cT c_144 (by rw [fm_w3, decide_eq_true (Nat.lt_of_not_le c_165), Bool.or_true]) | exact fm_cF2 (by rw [fm_w3, decide_eq_false c_151, decide_eq_false (Nat.not_lt.mpr c_165)]; rfl), ht⟩) (fun q hq => by cases hq) d_MO_isWordRight_173
                · have c_151 : ¬ (fm_AT (fm_RB f) 6 k 0 = 128) := fun z => c0 ((nI_eq (a := fm_AT (fm_RB f) 6 k 0) (b := 128) (by omega) (by omega)).mpr z)
                  refine lv_iload_n hx hb d_MO_isWordRight_154 rfl (lv_at hl 6 rfl) ?_
                  refine lv_iload_n hx hb d_MO_isWordRight_155 rfl (lv_at hl 4 rfl) ?_
                  refine lv_iadd hx hb d_MO_isWordRight_156 ?_
                  refine fm_tw (z := nI (k + fm_AT (fm_RB f) 6 k 0)) (nI_add _ _) ?_
                  refine lv_iconst (v := nI (1)) hx hb d_MO_isWordRight_157 (by decide) ?_
                  refine lv_iadd hx hb d_MO_isWordRight_158 ?_
                  refine fm_tw (z := nI (k + fm_AT (fm_RB f) 6 k 0 + 1)) (nI_add _ _) ?_
                  refine lv_aload_n hx hb d_MO_isWordRight_159 rfl (lv_at hl 5 rfl) ?_
                  refine lv_bipush (v := nI (6)) hx hb d_MO_isWordRight_160 (by decide) ?_
                  refine fm_cs S (c_MO_words l dC dI fa cB f 6 (by omega) (fun _ => hq)) rfl rfl k_MO_words q_3_175 ⟨Nat.le_of_ble_eq_true rfl, Nat.le_of_ble_eq_true rfl⟩ (hP.sub [0] rfl) (hK.sub [0] rfl) rfl hl.1 rfl (Nat.le_of_ble_eq_true rfl) ⟨Nat.zero_le _, Nat.zero_le _⟩ d_MO_isWordRight_162 ?_
                  have f0_162 := fm_WD_le (fm_RB_lt f) 6
                  refine lv_icmp_ge (tgt := 172) hx hb d_MO_isWordRight_165 (by decide) (fun c0 => ?_) (fun c0 => ?_)
                  · have c_165 : fm_WD (fm_RB f) 6 ≤ k + fm_AT (fm_RB f) 6 k 0 + 1 := (nI_leI (a := fm_WD (fm_RB f) 6) (b := k + fm_AT (fm_RB f) 6 k 0 + 1) (by omega) (by omega)).mp c0
                    refine lv_iconst (v := nI (0)) hx hb d_MO_isWordRight_172 (by decide) ?_
                    exact W.zret (ty := .boolean) hx hb hr (rfl) (fun t ht hW => ⟨_, rfl, by rw [fm_word1, if_neg (Nat.not_lt.mpr c_13)]; first | exact fm_cF1 c_144 | exact fm_cT c_144 (by rw [fm_w3, decide_eq_true c_151]; rfl) | exact fm_cT c_144 (by rw [fm_w3, decide_eq_true (Nat.lt_of_not_le c_165), Bool.or_true]) | exact fm_cF2 (by rw [fm_w3, decide_eq_false c_151, decide_eq_false (Nat.not_lt.mpr c_165)]; rfl), ht⟩) (fun q hq => by cases hq) d_MO_isWordRight_173
                  · have c_165 : ¬ (fm_WD (fm_RB f) 6 ≤ k + fm_AT (fm_RB f) 6 k 0 + 1) := fun z => c0 ((nI_leI (a := fm_WD (fm_RB f) 6) (b := k + fm_AT (fm_RB f) 6 k 0 + 1) (by omega) (by omega)).mpr z)
                    refine lv_iconst (v := nI (1)) hx hb d_MO_isWordRight_168 (by decide) ?_
                    refine lv_goto (tgt := 173) hx hb d_MO_isWordRight_169 (by decide) ?_
                    exact W.zret (ty := .boolean) hx hb hr (rfl) (fun t ht hW => ⟨_, rfl, by rw [fm_word1, if_neg (Nat.not_lt.mpr c_13)]; first | exact fm_cF1 c_144 | exact fm_cT c_144 (by rw [fm_w3, decide_eq_true c_151]; rfl) | exact fm_cT c_144 (by rw [fm_w3, decide_eq_true (Nat.lt_of_not_le c_165), Bool.or_true]) | exact fm_cF2 (by rw [fm_w3, decide_eq_false c_151, decide_eq_false (Nat.not_lt.mpr c_165)]; rfl), ht⟩) (fun q hq => by cases hq) d_MO_isWordRight_173
      · have c_78 := c0
        refine lv_iconst (v := nI (1)) hx hb d_MO_isWordRight_81 (by decide) ?_
        refine lv_goto (tgt := 86) hx hb d_MO_isWordRight_82 (by decide) ?_
        refine fm_tw (z := (fm_bI (fm_w1 (fm_RB f) k))) (by first | (refine fm_bI_1 ?_; rw [fm_w1, c_70]; rfl) | (refine fm_bI_1 ?_; rw [fm_w1, decide_eq_true c_78, Bool.or_true]) | (refine fm_bI_0 ?_; rw [fm_w1, c_70, decide_eq_false c_78]; rfl)) ?_
        refine lv_istore (lv' := [(6, .int (fm_bI (fm_w1 (fm_RB f) k))), (5, .int (nI (fm_AT (fm_RB f) 6 k 3))), (4, .int (nI (fm_AT (fm_RB f) 6 k 2))), (3, .int (nI (fm_AT (fm_RB f) 6 k 1))), (2, .int (nI (fm_AT (fm_RB f) 6 k 0))), (0, .ref fa), (1, .int (nI (k)))]) hx hb d_MO_isWordRight_86 hl (by decide) rfl (fun ls hl => ?_)
        refine lv_iload hx hb d_MO_isWordRight_88 (lv_at hl 0 rfl) ?_
        refine lv_if_eq (tgt := 139) hx hb d_MO_isWordRight_90 (by decide) (fun c0 => ?_) (fun c0 => ?_)
        · have c_90 : (fm_w1 (fm_RB f) k) = false := fm_bI_f c0
          refine lv_iconst (v := nI (0)) hx hb d_MO_isWordRight_139 (by decide) ?_
          refine fm_tw (z := (fm_bI (fm_w1 (fm_RB f) k && fm_w2 (fm_RB f) k))) (by first | exact fm_cF1 c_90 | exact fm_cT c_90 (fm_w2_1 c_98 c_107) | exact fm_cF2 (fm_w2_1 c_98 c_107) | exact fm_cT c_90 (fm_w2_t c_98 c_132) | exact fm_cF2 (fm_w2_f c_98 c_132)) ?_
          refine lv_istore (lv' := [(6, .int (fm_bI (fm_w1 (fm_RB f) k && fm_w2 (fm_RB f) k))), (5, .int (nI (fm_AT (fm_RB f) 6 k 3))), (4, .int (nI (fm_AT (fm_RB f) 6 k 2))), (3, .int (nI (fm_AT (fm_RB f) 6 k 1))), (2, .int (nI (fm_AT (fm_RB f) 6 k 0))), (0, .ref fa), (1, .int (nI (k)))]) hx hb d_MO_isWordRight_140 hl (by decide) rfl (fun ls hl => ?_)
          refine lv_iload hx hb d_MO_isWordRight_142 (lv_at hl 0 rfl) ?_
          refine lv_if_eq (tgt := 172) hx hb d_MO_isWordRight_144 (by decide) (fun c0 => ?_) (fun c0 => ?_)
          · have c_144 : (fm_w1 (fm_RB f) k && fm_w2 (fm_RB f) k) = false := fm_bI_f c0
            refine lv_iconst (v := nI (0)) hx hb d_MO_isWordRight_172 (by decide) ?_
            exact W.zret (ty := .boolean) hx hb hr (rfl) (fun t ht hW => ⟨_, rfl, by rw [fm_word1, if_neg (Nat.not_lt.mpr c_13)]; first | exact fm_cF1 c_144 | exact fm_cT c_144 (by rw [fm_w3, decide_eq_true c_151]; rfl) | exact fm_cT c_144 (by rw [fm_w3, decide_eq_true (Nat.lt_of_not_le c_165), Bool.or_true]) | exact fm_cF2 (by rw [fm_w3, decide_eq_false c_151, decide_eq_false (Nat.not_lt.mpr c_165)]; rfl), ht⟩) (fun q hq => by cases hq) d_MO_isWordRight_173
          · have c_144 : (fm_w1 (fm_RB f) k && fm_w2 (fm_RB f) k) = true := fm_bI_t c0
            refine lv_iload_n hx hb d_MO_isWordRight_147 rfl (lv_at hl 4 rfl) ?_
            refine lv_sipush (v := nI (128)) hx hb d_MO_isWordRight_148 (by decide) ?_
            refine lv_icmp_eq (tgt := 168) hx hb d_MO_isWordRight_151 (by decide) (fun c0 => ?_) (fun c0 => ?_)
            · have c_151 : fm_AT (fm_RB f) 6 k 0 = 128 := (nI_eq (a := fm_AT (fm_RB f) 6 k 0) (b := 128) (by omega) (by omega)).mp c0
              refine lv_iconst (v := nI (1)) hx hb d_MO_isWordRight_168 (by decide) ?_
              refine lv_goto (tgt := 173) hx hb d_MO_isWordRight_169 (by decide) ?_
              exact W.zret (ty := .boolean) hx hb hr (rfl) (fun t ht hW => ⟨_, rfl, by rw [fm_word1, if_neg (Nat.not_lt.mpr c_13)]; first | exact fm_cF1 c_144 | exact fm_cT c_144 (by rw [fm_w3, decide_eq_true c_151]; rfl) | exact fm_cT c_144 (by rw [fm_w3, decide_eq_true (Nat.lt_of_not_le c_165), Bool.or_true]) | exact fm_cF2 (by rw [fm_w3, decide_eq_false c_151, decide_eq_false (Nat.not_lt.mpr c_165)]; rfl), ht⟩) (fun q hq => by cases hq) d_MO_isWordRight_173
            · have c_151 : ¬ (fm_AT (fm_RB f) 6 k 0 = 128) := fun z => c0 ((nI_eq (a := fm_AT (fm_RB f) 6 k 0) (b := 128) (by omega) (by omega)).mpr z)
              refine lv_iload_n hx hb d_MO_isWordRight_154 rfl (lv_at hl 6 rfl) ?_
              refine lv_iload_n hx hb d_MO_isWordRight_155 rfl (lv_at hl 4 rfl) ?_
              refine lv_iadd hx hb d_MO_isWordRight_156 ?_
              refine fm_tw (z := nI (k + fm_AT (fm_RB f) 6 k 0)) (nI_add _ _) ?_
              refine lv_iconst (v := nI (1)) hx hb d_MO_isWordRight_157 (by decide) ?_
              refine lv_iadd hx hb d_MO_isWordRight_158 ?_
              refine fm_tw (z := nI (k + fm_AT (fm_RB f) 6 k 0 + 1)) (nI_add _ _) ?_
              refine lv_aload_n hx hb d_MO_isWordRight_159 rfl (lv_at hl 5 rfl) ?_
              refine lv_bipush (v := nI (6)) hx hb d_MO_isWordRight_160 (by decide) ?_
              refine fm_cs S (c_MO_words l dC dI fa cB f 6 (by omega) (fun _ => hq)) rfl rfl k_MO_words q_3_175 ⟨Nat.le_of_ble_eq_true rfl, Nat.le_of_ble_eq_true rfl⟩ (hP.sub [0] rfl) (hK.sub [0] rfl) rfl hl.1 rfl (Nat.le_of_ble_eq_true rfl) ⟨Nat.zero_le _, Nat.zero_le _⟩ d_MO_isWordRight_162 ?_
              have f0_162 := fm_WD_le (fm_RB_lt f) 6
              refine lv_icmp_ge (tgt := 172) hx hb d_MO_isWordRight_165 (by decide) (fun c0 => ?_) (fun c0 => ?_)
              · have c_165 : fm_WD (fm_RB f) 6 ≤ k + fm_AT (fm_RB f) 6 k 0 + 1 := (nI_leI (a := fm_WD (fm_RB f) 6) (b := k + fm_AT (fm_RB f) 6 k 0 + 1) (by omega) (by omega)).mp c0
                refine lv_iconst (v := nI (0)) hx hb d_MO_isWordRight_172 (by decide) ?_
                exact W.zret (ty := .boolean) hx hb hr (rfl) (fun t ht hW => ⟨_, rfl, by rw [fm_word1, if_neg (Nat.not_lt.mpr c_13)]; first | exact fm_cF1 c_144 | exact fm_cT c_144 (by rw [fm_w3, decide_eq_true c_151]; rfl) | exact fm_cT c_144 (by rw [fm_w3, decide_eq_true (Nat.lt_of_not_le c_165), Bool.or_true]) | exact fm_cF2 (by rw [fm_w3, decide_eq_false c_151, decide_eq_false (Nat.not_lt.mpr c_165)]; rfl), ht⟩) (fun q hq => by cases hq) d_MO_isWordRight_173
              · have c_165 : ¬ (fm_WD (fm_RB f) 6 ≤ k + fm_AT (fm_RB f) 6 k 0 + 1) := fun z => c0 ((nI_leI (a := fm_WD (fm_RB f) 6) (b := k + fm_AT (fm_RB f) 6 k 0 + 1) (by omega) (by omega)).mpr z)
                refine lv_iconst (v := nI (1)) hx hb d_MO_isWordRight_168 (by decide) ?_
                refine lv_goto (tgt := 173) hx hb d_MO_isWordRight_169 (by decide) ?_
                exact W.zret (ty := .boolean) hx hb hr (rfl) (fun t ht hW => ⟨_, rfl, by rw [fm_word1, if_neg (Nat.not_lt.mpr c_13)]; first | exact fm_cF1 c_144 | exact fm_cT c_144 (by rw [fm_w3, decide_eq_true c_151]; rfl) | exact fm_cT c_144 (by rw [fm_w3, decide_eq_true (Nat.lt_of_not_le c_165), Bool.or_true]) | exact fm_cF2 (by rw [fm_w3, decide_eq_false c_151, decide_eq_false (Nat.not_lt.mpr c_165)]; rfl), ht⟩) (fun q hq => by cases hq) d_MO_isWordRight_173
        · have c_90 : (fm_w1 (fm_RB f) k) = true := fm_bI_t c0
          refine lv_iload hx hb d_MO_isWordRight_93 (lv_at hl 2 rfl) ?_
          refine lv_sipush (v := nI (128)) hx hb d_MO_isWordRight_95 (by decide) ?_
          refine lv_icmp_ge (tgt := 113) hx hb d_MO_isWordRight_98 (by decide) (fun c0 => ?_) (fun c0 => ?_)
          · have c_98 : 128 ≤ fm_AT (fm_RB f) 6 k 2 := (nI_leI (a := 128) (b := fm_AT (fm_RB f) 6 k 2) (by omega) (by omega)).mp c0
            refine lv_sipush (v := nI (256)) hx hb d_MO_isWordRight_113 (by decide) ?_
            refine lv_iload hx hb d_MO_isWordRight_116 (lv_at hl 2 rfl) ?_
            refine lv_sipush (v := nI (128)) hx hb d_MO_isWordRight_118 (by decide) ?_
            refine lv_isub hx hb d_MO_isWordRight_121 ?_
            refine fm_tw (z := nI (fm_AT (fm_RB f) 6 k 2 - 128)) (pk_sub (by omega)) ?_
            refine lv_imul hx hb d_MO_isWordRight_122 ?_
            refine fm_tw (z := nI (256 * (fm_AT (fm_RB f) 6 k 2 - 128))) (pk_mul _ _) ?_
            refine lv_iload hx hb d_MO_isWordRight_123 (lv_at hl 1 rfl) ?_
            refine lv_iadd hx hb d_MO_isWordRight_125 ?_
            refine fm_tw (z := nI (256 * (fm_AT (fm_RB f) 6 k 2 - 128) + fm_AT (fm_RB f) 6 k 3)) (nI_add _ _) ?_
            refine lv_aload_n hx hb d_MO_isWordRight_126 rfl (lv_at hl 5 rfl) ?_
            refine lv_bipush (v := nI (7)) hx hb d_MO_isWordRight_127 (by decide) ?_
            refine fm_cs S (c_MO_words l dC dI fa cB f 7 (by omega) (fun _ => hq)) rfl rfl k_MO_words q_3_175 ⟨Nat.le_of_ble_eq_true rfl, Nat.le_of_ble_eq_true rfl⟩ (hP.sub [0] rfl) (hK.sub [0] rfl) rfl hl.1 rfl (Nat.le_of_ble_eq_true rfl) ⟨Nat.zero_le _, Nat.zero_le _⟩ d_MO_isWordRight_129 ?_
            have f0_129 := fm_WD_le (fm_RB_lt f) 7
            refine lv_icmp_ge (tgt := 139) hx hb d_MO_isWordRight_132 (by decide) (fun c0 => ?_) (fun c0 => ?_)
            · have c_132 : fm_WD (fm_RB f) 7 ≤ 256 * (fm_AT (fm_RB f) 6 k 2 - 128) + fm_AT (fm_RB f) 6 k 3 := (nI_leI (a := fm_WD (fm_RB f) 7) (b := 256 * (fm_AT (fm_RB f) 6 k 2 - 128) + fm_AT (fm_RB f) 6 k 3) (by omega) (by omega)).mp c0
              refine lv_iconst (v := nI (0)) hx hb d_MO_isWordRight_139 (by decide) ?_
              refine fm_tw (z := (fm_bI (fm_w1 (fm_RB f) k && fm_w2 (fm_RB f) k))) (by first | exact fm_cF1 c_90 | exact fm_cT c_90 (fm_w2_1 c_98 c_107) | exact fm_cF2 (fm_w2_1 c_98 c_107) | exact fm_cT c_90 (fm_w2_t c_98 c_132) | exact fm_cF2 (fm_w2_f c_98 c_132)) ?_
              refine lv_istore (lv' := [(6, .int (fm_bI (fm_w1 (fm_RB f) k && fm_w2 (fm_RB f) k))), (5, .int (nI (fm_AT (fm_RB f) 6 k 3))), (4, .int (nI (fm_AT (fm_RB f) 6 k 2))), (3, .int (nI (fm_AT (fm_RB f) 6 k 1))), (2, .int (nI (fm_AT (fm_RB f) 6 k 0))), (0, .ref fa), (1, .int (nI (k)))]) hx hb d_MO_isWordRight_140 hl (by decide) rfl (fun ls hl => ?_)
              refine lv_iload hx hb d_MO_isWordRight_142 (lv_at hl 0 rfl) ?_
              refine lv_if_eq (tgt := 172) hx hb d_MO_isWordRight_144 (by decide) (fun c0 => ?_) (fun c0 => ?_)
              · have c_144 : (fm_w1 (fm_RB f) k && fm_w2 (fm_RB f) k) = false := fm_bI_f c0
                refine lv_iconst (v := nI (0)) hx hb d_MO_isWordRight_172 (by decide) ?_
                exact W.zret (ty := .boolean) hx hb hr (rfl) (fun t ht hW => ⟨_, rfl, by rw [fm_word1, if_neg (Nat.not_lt.mpr c_13)]; first | exact fm_cF1 c_144 | exact fm_cT c_144 (by rw [fm_w3, decide_eq_true c_151]; rfl) | exact fm_cT c_144 (by rw [fm_w3, decide_eq_true (Nat.lt_of_not_le c_165), Bool.or_true]) | exact fm_cF2 (by rw [fm_w3, decide_eq_false c_151, decide_eq_false (Nat.not_lt.mpr c_165)]; rfl), ht⟩) (fun q hq => by cases hq) d_MO_isWordRight_173
              · have c_144 : (fm_w1 (fm_RB f) k && fm_w2 (fm_RB f) k) = true := fm_bI_t c0
                refine lv_iload_n hx hb d_MO_isWordRight_147 rfl (lv_at hl 4 rfl) ?_
                refine lv_sipush (v := nI (128)) hx hb d_MO_isWordRight_148 (by decide) ?_
                refine lv_icmp_eq (tgt := 168) hx hb d_MO_isWordRight_151 (by decide) (fun c0 => ?_) (fun c0 => ?_)
                · have c_151 : fm_AT (fm_RB f) 6 k 0 = 128 := (nI_eq (a := fm_AT (fm_RB f) 6 k 0) (b := 128) (by omega) (by omega)).mp c0
                  refine lv_iconst (v := nI (1)) hx hb d_MO_isWordRight_168 (by decide) ?_
                  refine lv_goto (tgt := 173) hx hb d_MO_isWordRight_169 (by decide) ?_
                  exact W.zret (ty := .boolean) hx hb hr (rfl) (fun t ht hW => ⟨_, rfl, by rw [fm_word1, if_neg (Nat.not_lt.mpr c_13)]; first | exact fm_cF1 c_144 | exact fm_cT c_144 (by rw [fm_w3, decide_eq_true c_151]; rfl) | exact fm_cT c_144 (by rw [fm_w3, decide_eq_true (Nat.lt_of_not_le c_165), Bool.or_true]) | exact fm_cF2 (by rw [fm_w3, decide_eq_false c_151, decide_eq_false (Nat.not_lt.mpr c_165)]; rfl), ht⟩) (fun q hq => by cases hq) d_MO_isWordRight_173
                · have c_151 : ¬ (fm_AT (fm_RB f) 6 k 0 = 128) := fun z => c0 ((nI_eq (a := fm_AT (fm_RB f) 6 k 0) (b := 128) (by omega) (by omega)).mpr z)
                  refine lv_iload_n hx hb d_MO_isWordRight_154 rfl (lv_at hl 6 rfl) ?_
                  refine lv_iload_n hx hb d_MO_isWordRight_155 rfl (lv_at hl 4 rfl) ?_
                  refine lv_iadd hx hb d_MO_isWordRight_156 ?_
                  refine fm_tw (z := nI (k + fm_AT (fm_RB f) 6 k 0)) (nI_add _ _) ?_
                  refine lv_iconst (v := nI (1)) hx hb d_MO_isWordRight_157 (by decide) ?_
                  refine lv_iadd hx hb d_MO_isWordRight_158 ?_
                  refine fm_tw (z := nI (k + fm_AT (fm_RB f) 6 k 0 + 1)) (nI_add _ _) ?_
                  refine lv_aload_n hx hb d_MO_isWordRight_159 rfl (lv_at hl 5 rfl) ?_
                  refine lv_bipush (v := nI (6)) hx hb d_MO_isWordRight_160 (by decide) ?_
                  refine fm_cs S (c_MO_words l dC dI fa cB f 6 (by omega) (fun _ => hq)) rfl rfl k_MO_words q_3_175 ⟨Nat.le_of_ble_eq_true rfl, Nat.le_of_ble_eq_true rfl⟩ (hP.sub [0] rfl) (hK.sub [0] rfl) rfl hl.1 rfl (Nat.le_of_ble_eq_true rfl) ⟨Nat.zero_le _, Nat.zero_le _⟩ d_MO_isWordRight_162 ?_
                  have f0_162 := fm_WD_le (fm_RB_lt f) 6
                  refine lv_icmp_ge (tgt := 172) hx hb d_MO_isWordRight_165 (by decide) (fun c0 => ?_) (fun c0 => ?_)
                  · have c_165 : fm_WD (fm_RB f) 6 ≤ k + fm_AT (fm_RB f) 6 k 0 + 1 := (nI_leI (a := fm_WD (fm_RB f) 6) (b := k + fm_AT (fm_RB f) 6 k 0 + 1) (by omega) (by omega)).mp c0
                    refine lv_iconst (v := nI (0)) hx hb d_MO_isWordRight_172 (by decide) ?_
                    exact W.zret (ty := .boolean) hx hb hr (rfl) (fun t ht hW => ⟨_, rfl, by rw [fm_word1, if_neg (Nat.not_lt.mpr c_13)]; first | exact fm_cF1 c_144 | exact fm_cT c_144 (by rw [fm_w3, decide_eq_true c_151]; rfl) | exact fm_cT c_144 (by rw [fm_w3, decide_eq_true (Nat.lt_of_not_le c_165), Bool.or_true]) | exact fm_cF2 (by rw [fm_w3, decide_eq_false c_151, decide_eq_false (Nat.not_lt.mpr c_165)]; rfl), ht⟩) (fun q hq => by cases hq) d_MO_isWordRight_173
                  · have c_165 : ¬ (fm_WD (fm_RB f) 6 ≤ k + fm_AT (fm_RB f) 6 k 0 + 1) := fun z => c0 ((nI_leI (a := fm_WD (fm_RB f) 6) (b := k + fm_AT (fm_RB f) 6 k 0 + 1) (by omega) (by omega)).mpr z)
                    refine lv_iconst (v := nI (1)) hx hb d_MO_isWordRight_168 (by decide) ?_
                    refine lv_goto (tgt := 173) hx hb d_MO_isWordRight_169 (by decide) ?_
                    exact W.zret (ty := .boolean) hx hb hr (rfl) (fun t ht hW => ⟨_, rfl, by rw [fm_word1, if_neg (Nat.not_lt.mpr c_13)]; first | exact fm_cF1 c_144 | exact fm_cT c_144 (by rw [fm_w3, decide_eq_true c_151]; rfl) | exact fm_cT c_144 (by rw [fm_w3, decide_eq_true (Nat.lt_of_not_le c_165), Bool.or_true]) | exact fm_cF2 (by rw [fm_w3, decide_eq_false c_151, decide_eq_false (Nat.not_lt.mpr c_165)]; rfl), ht⟩) (fun q hq => by cases hq) d_MO_isWordRight_173
            · have c_132 : ¬ (fm_WD (fm_RB f) 7 ≤ 256 * (fm_AT (fm_RB f) 6 k 2 - 128) + fm_AT (fm_RB f) 6 k 3) := fun z => c0 ((nI_leI (a := fm_WD (fm_RB f) 7) (b := 256 * (fm_AT (fm_RB f) 6 k 2 - 128) + fm_AT (fm_RB f) 6 k 3) (by omega) (by omega)).mpr z)
              refine lv_iconst (v := nI (1)) hx hb d_MO_isWordRight_135 (by decide) ?_
              refine lv_goto (tgt := 140) hx hb d_MO_isWordRight_136 (by decide) ?_
              refine fm_tw (z := (fm_bI (fm_w1 (fm_RB f) k && fm_w2 (fm_RB f) k))) (by first | exact fm_cF1 c_90 | exact fm_cT c_90 (fm_w2_1 c_98 c_107) | exact fm_cF2 (fm_w2_1 c_98 c_107) | exact fm_cT c_90 (fm_w2_t c_98 c_132) | exact fm_cF2 (fm_w2_f c_98 c_132)) ?_
              refine lv_istore (lv' := [(6, .int (fm_bI (fm_w1 (fm_RB f) k && fm_w2 (fm_RB f) k))), (5, .int (nI (fm_AT (fm_RB f) 6 k 3))), (4, .int (nI (fm_AT (fm_RB f) 6 k 2))), (3, .int (nI (fm_AT (fm_RB f) 6 k 1))), (2, .int (nI (fm_AT (fm_RB f) 6 k 0))), (0, .ref fa), (1, .int (nI (k)))]) hx hb d_MO_isWordRight_140 hl (by decide) rfl (fun ls hl => ?_)
              refine lv_iload hx hb d_MO_isWordRight_142 (lv_at hl 0 rfl) ?_
              refine lv_if_eq (tgt := 172) hx hb d_MO_isWordRight_144 (by decide) (fun c0 => ?_) (fun c0 => ?_)
              · have c_144 : (fm_w1 (fm_RB f) k && fm_w2 (fm_RB f) k) = false := fm_bI_f c0
                refine lv_iconst (v := nI (0)) hx hb d_MO_isWordRight_172 (by decide) ?_
                exact W.zret (ty := .boolean) hx hb hr (rfl) (fun t ht hW => ⟨_, rfl, by rw [fm_word1, if_neg (Nat.not_lt.mpr c_13)]; first | exact fm_cF1 c_144 | exact fm_cT c_144 (by rw [fm_w3, decide_eq_true c_151]; rfl) | exact fm_cT c_144 (by rw [fm_w3, decide_eq_true (Nat.lt_of_not_le c_165), Bool.or_true]) | exact fm_cF2 (by rw [fm_w3, decide_eq_false c_151, decide_eq_false (Nat.not_lt.mpr c_165)]; rfl), ht⟩) (fun q hq => by cases hq) d_MO_isWordRight_173
              · have c_144 : (fm_w1 (fm_RB f) k && fm_w2 (fm_RB f) k) = true := fm_bI_t c0
                refine lv_iload_n hx hb d_MO_isWordRight_147 rfl (lv_at hl 4 rfl) ?_
                refine lv_sipush (v := nI (128)) hx hb d_MO_isWordRight_148 (by decide) ?_
                refine lv_icmp_eq (tgt := 168) hx hb d_MO_isWordRight_151 (by decide) (fun c0 => ?_) (fun c0 => ?_)
                · have c_151 : fm_AT (fm_RB f) 6 k 0 = 128 := (nI_eq (a := fm_AT (fm_RB f) 6 k 0) (b := 128) (by omega) (by omega)).mp c0
                  refine lv_iconst (v := nI (1)) hx hb d_MO_isWordRight_168 (by decide) ?_
                  refine lv_goto (tgt := 173) hx hb d_MO_isWordRight_169 (by decide) ?_
                  exact W.zret (ty := .boolean) hx hb hr (rfl) (fun t ht hW => ⟨_, rfl, by rw [fm_word1, if_neg (Nat.not_lt.mpr c_13)]; first | exact fm_cF1 c_144 | exact fm_cT c_144 (by rw [fm_w3, decide_eq_true c_151]; rfl) | exact fm_cT c_144 (by rw [fm_w3, decide_eq_true (Nat.lt_of_not_le c_165), Bool.or_true]) | exact fm_cF2 (by rw [fm_w3, decide_eq_false c_151, decide_eq_false (Nat.not_lt.mpr c_165)]; rfl), ht⟩) (fun q hq => by cases hq) d_MO_isWordRight_173
                · have c_151 : ¬ (fm_AT (fm_RB f) 6 k 0 = 128) := fun z => c0 ((nI_eq (a := fm_AT (fm_RB f) 6 k 0) (b := 128) (by omega) (by omega)).mpr z)
                  refine lv_iload_n hx hb d_MO_isWordRight_154 rfl (lv_at hl 6 rfl) ?_
                  refine lv_iload_n hx hb d_MO_isWordRight_155 rfl (lv_at hl 4 rfl) ?_
                  refine lv_iadd hx hb d_MO_isWordRight_156 ?_
                  refine fm_tw (z := nI (k + fm_AT (fm_RB f) 6 k 0)) (nI_add _ _) ?_
                  refine lv_iconst (v := nI (1)) hx hb d_MO_isWordRight_157 (by decide) ?_
                  refine lv_iadd hx hb d_MO_isWordRight_158 ?_
                  refine fm_tw (z := nI (k + fm_AT (fm_RB f) 6 k 0 + 1)) (nI_add _ _) ?_
                  refine lv_aload_n hx hb d_MO_isWordRight_159 rfl (lv_at hl 5 rfl) ?_
                  refine lv_bipush (v := nI (6)) hx hb d_MO_isWordRight_160 (by decide) ?_
                  refine fm_cs S (c_MO_words l dC dI fa cB f 6 (by omega) (fun _ => hq)) rfl rfl k_MO_words q_3_175 ⟨Nat.le_of_ble_eq_true rfl, Nat.le_of_ble_eq_true rfl⟩ (hP.sub [0] rfl) (hK.sub [0] rfl) rfl hl.1 rfl (Nat.le_of_ble_eq_true rfl) ⟨Nat.zero_le _, Nat.zero_le _⟩ d_MO_isWordRight_162 ?_
                  have f0_162 := fm_WD_le (fm_RB_lt f) 6
                  refine lv_icmp_ge (tgt := 172) hx hb d_MO_isWordRight_165 (by decide) (fun c0 => ?_) (fun c0 => ?_)
                  · have c_165 : fm_WD (fm_RB f) 6 ≤ k + fm_AT (fm_RB f) 6 k 0 + 1 := (nI_leI (a := fm_WD (fm_RB f) 6) (b := k + fm_AT (fm_RB f) 6 k 0 + 1) (by omega) (by omega)).mp c0
                    refine lv_iconst (v := nI (0)) hx hb d_MO_isWordRight_172 (by decide) ?_
                    exact W.zret (ty := .boolean) hx hb hr (rfl) (fun t ht hW => ⟨_, rfl, by rw [fm_word1, if_neg (Nat.not_lt.mpr c_13)]; first | exact fm_cF1 c_144 | exact fm_cT c_144 (by rw [fm_w3, decide_eq_true c_151]; rfl) | exact fm_cT c_144 (by rw [fm_w3, decide_eq_true (Nat.lt_of_not_le c_165), Bool.or_true]) | exact fm_cF2 (by rw [fm_w3, decide_eq_false c_151, decide_eq_false (Nat.not_lt.mpr c_165)]; rfl), ht⟩) (fun q hq => by cases hq) d_MO_isWordRight_173
                  · have c_165 : ¬ (fm_WD (fm_RB f) 6 ≤ k + fm_AT (fm_RB f) 6 k 0 + 1) := fun z => c0 ((nI_leI (a := fm_WD (fm_RB f) 6) (b := k + fm_AT (fm_RB f) 6 k 0 + 1) (by omega) (by omega)).mpr z)
                    refine lv_iconst (v := nI (1)) hx hb d_MO_isWordRight_168 (by decide) ?_
                    refine lv_goto (tgt := 173) hx hb d_MO_isWordRight_169 (by decide) ?_
                    exact W.zret (ty := .boolean) hx hb hr (rfl) (fun t ht hW => ⟨_, rfl, by rw [fm_word1, if_neg (Nat.not_lt.mpr c_13)]; first | exact fm_cF1 c_144 | exact fm_cT c_144 (by rw [fm_w3, decide_eq_true c_151]; rfl) | exact fm_cT c_144 (by rw [fm_w3, decide_eq_true (Nat.lt_of_not_le c_165), Bool.or_true]) | exact fm_cF2 (by rw [fm_w3, decide_eq_false c_151, decide_eq_false (Nat.not_lt.mpr c_165)]; rfl), ht⟩) (fun q hq => by cases hq) d_MO_isWordRight_173
          · have c_98 : ¬ (128 ≤ fm_AT (fm_RB f) 6 k 2) := fun z => c0 ((nI_leI (a := 128) (b := fm_AT (fm_RB f) 6 k 2) (by omega) (by omega)).mpr z)
            refine lv_aload_n hx hb d_MO_isWordRight_101 rfl (lv_at hl 5 rfl) ?_
            refine lv_iload hx hb d_MO_isWordRight_102 (lv_at hl 1 rfl) ?_
            refine fm_cs S (c_MO_isThereN l dC dI fa cB f (fm_AT (fm_RB f) 6 k 3) (by omega) (hL)) rfl rfl k_MO_isThere q_3_194 ⟨Nat.le_of_ble_eq_true rfl, Nat.le_of_ble_eq_true rfl⟩ (hP.sub [0] rfl) (hK.sub [0] rfl) rfl hl.1 rfl (Nat.le_of_ble_eq_true rfl) ⟨Nat.zero_le _, Nat.zero_le _⟩ d_MO_isWordRight_104 ?_
            refine lv_if_eq (tgt := 139) hx hb d_MO_isWordRight_107 (by decide) (fun c0 => ?_) (fun c0 => ?_)
            · have c_107 : (fm_th (fm_RB f) (fm_AT (fm_RB f) 6 k 3)) = false := fm_bI_f c0
              refine lv_iconst (v := nI (0)) hx hb d_MO_isWordRight_139 (by decide) ?_
              refine fm_tw (z := (fm_bI (fm_w1 (fm_RB f) k && fm_w2 (fm_RB f) k))) (by first | exact fm_cF1 c_90 | exact fm_cT c_90 (fm_w2_1 c_98 c_107) | exact fm_cF2 (fm_w2_1 c_98 c_107) | exact fm_cT c_90 (fm_w2_t c_98 c_132) | exact fm_cF2 (fm_w2_f c_98 c_132)) ?_
              refine lv_istore (lv' := [(6, .int (fm_bI (fm_w1 (fm_RB f) k && fm_w2 (fm_RB f) k))), (5, .int (nI (fm_AT (fm_RB f) 6 k 3))), (4, .int (nI (fm_AT (fm_RB f) 6 k 2))), (3, .int (nI (fm_AT (fm_RB f) 6 k 1))), (2, .int (nI (fm_AT (fm_RB f) 6 k 0))), (0, .ref fa), (1, .int (nI (k)))]) hx hb d_MO_isWordRight_140 hl (by decide) rfl (fun ls hl => ?_)
              refine lv_iload hx hb d_MO_isWordRight_142 (lv_at hl 0 rfl) ?_
              refine lv_if_eq (tgt := 172) hx hb d_MO_isWordRight_144 (by decide) (fun c0 => ?_) (fun c0 => ?_)
              · have c_144 : (fm_w1 (fm_RB f) k && fm_w2 (fm_RB f) k) = false := fm_bI_f c0
                refine lv_iconst (v := nI (0)) hx hb d_MO_isWordRight_172 (by decide) ?_
                exact W.zret (ty := .boolean) hx hb hr (rfl) (fun t ht hW => ⟨_, rfl, by rw [fm_word1, if_neg (Nat.not_lt.mpr c_13)]; first | exact fm_cF1 c_144 | exact fm_cT c_144 (by rw [fm_w3, decide_eq_true c_151]; rfl) | exact fm_cT c_144 (by rw [fm_w3, decide_eq_true (Nat.lt_of_not_le c_165), Bool.or_true]) | exact fm_cF2 (by rw [fm_w3, decide_eq_false c_151, decide_eq_false (Nat.not_lt.mpr c_165)]; rfl), ht⟩) (fun q hq => by cases hq) d_MO_isWordRight_173
              · have c_144 : (fm_w1 (fm_RB f) k && fm_w2 (fm_RB f) k) = true := fm_bI_t c0
                refine lv_iload_n hx hb d_MO_isWordRight_147 rfl (lv_at hl 4 rfl) ?_
                refine lv_sipush (v := nI (128)) hx hb d_MO_isWordRight_148 (by decide) ?_
                refine lv_icmp_eq (tgt := 168) hx hb d_MO_isWordRight_151 (by decide) (fun c0 => ?_) (fun c0 => ?_)
                · have c_151 : fm_AT (fm_RB f) 6 k 0 = 128 := (nI_eq (a := fm_AT (fm_RB f) 6 k 0) (b := 128) (by omega) (by omega)).mp c0
                  refine lv_iconst (v := nI (1)) hx hb d_MO_isWordRight_168 (by decide) ?_
                  refine lv_goto (tgt := 173) hx hb d_MO_isWordRight_169 (by decide) ?_
                  exact W.zret (ty := .boolean) hx hb hr (rfl) (fun t ht hW => ⟨_, rfl, by rw [fm_word1, if_neg (Nat.not_lt.mpr c_13)]; first | exact fm_cF1 c_144 | exact fm_cT c_144 (by rw [fm_w3, decide_eq_true c_151]; rfl) | exact fm_cT c_144 (by rw [fm_w3, decide_eq_true (Nat.lt_of_not_le c_165), Bool.or_true]) | exact fm_cF2 (by rw [fm_w3, decide_eq_false c_151, decide_eq_false (Nat.not_lt.mpr c_165)]; rfl), ht⟩) (fun q hq => by cases hq) d_MO_isWordRight_173
                · have c_151 : ¬ (fm_AT (fm_RB f) 6 k 0 = 128) := fun z => c0 ((nI_eq (a := fm_AT (fm_RB f) 6 k 0) (b := 128) (by omega) (by omega)).mpr z)
                  refine lv_iload_n hx hb d_MO_isWordRight_154 rfl (lv_at hl 6 rfl) ?_
                  refine lv_iload_n hx hb d_MO_isWordRight_155 rfl (lv_at hl 4 rfl) ?_
                  refine lv_iadd hx hb d_MO_isWordRight_156 ?_
                  refine fm_tw (z := nI (k + fm_AT (fm_RB f) 6 k 0)) (nI_add _ _) ?_
                  refine lv_iconst (v := nI (1)) hx hb d_MO_isWordRight_157 (by decide) ?_
                  refine lv_iadd hx hb d_MO_isWordRight_158 ?_
                  refine fm_tw (z := nI (k + fm_AT (fm_RB f) 6 k 0 + 1)) (nI_add _ _) ?_
                  refine lv_aload_n hx hb d_MO_isWordRight_159 rfl (lv_at hl 5 rfl) ?_
                  refine lv_bipush (v := nI (6)) hx hb d_MO_isWordRight_160 (by decide) ?_
                  refine fm_cs S (c_MO_words l dC dI fa cB f 6 (by omega) (fun _ => hq)) rfl rfl k_MO_words q_3_175 ⟨Nat.le_of_ble_eq_true rfl, Nat.le_of_ble_eq_true rfl⟩ (hP.sub [0] rfl) (hK.sub [0] rfl) rfl hl.1 rfl (Nat.le_of_ble_eq_true rfl) ⟨Nat.zero_le _, Nat.zero_le _⟩ d_MO_isWordRight_162 ?_
                  have f0_162 := fm_WD_le (fm_RB_lt f) 6
                  refine lv_icmp_ge (tgt := 172) hx hb d_MO_isWordRight_165 (by decide) (fun c0 => ?_) (fun c0 => ?_)
                  · have c_165 : fm_WD (fm_RB f) 6 ≤ k + fm_AT (fm_RB f) 6 k 0 + 1 := (nI_leI (a := fm_WD (fm_RB f) 6) (b := k + fm_AT (fm_RB f) 6 k 0 + 1) (by omega) (by omega)).mp c0
                    refine lv_iconst (v := nI (0)) hx hb d_MO_isWordRight_172 (by decide) ?_
                    exact W.zret (ty := .boolean) hx hb hr (rfl) (fun t ht hW => ⟨_, rfl, by rw [fm_word1, if_neg (Nat.not_lt.mpr c_13)]; first | exact fm_cF1 c_144 | exact fm_cT c_144 (by rw [fm_w3, decide_eq_true c_151]; rfl) | exact fm_cT c_144 (by rw [fm_w3, decide_eq_true (Nat.lt_of_not_le c_165), Bool.or_true]) | exact fm_cF2 (by rw [fm_w3, decide_eq_false c_151, decide_eq_false (Nat.not_lt.mpr c_165)]; rfl), ht⟩) (fun q hq => by cases hq) d_MO_isWordRight_173
                  · have c_165 : ¬ (fm_WD (fm_RB f) 6 ≤ k + fm_AT (fm_RB f) 6 k 0 + 1) := fun z => c0 ((nI_leI (a := fm_WD (fm_RB f) 6) (b := k + fm_AT (fm_RB f) 6 k 0 + 1) (by omega) (by omega)).mpr z)
                    refine lv_iconst (v := nI (1)) hx hb d_MO_isWordRight_168 (by decide) ?_
                    refine lv_goto (tgt := 173) hx hb d_MO_isWordRight_169 (by decide) ?_
                    exact W.zret (ty := .boolean) hx hb hr (rfl) (fun t ht hW => ⟨_, rfl, by rw [fm_word1, if_neg (Nat.not_lt.mpr c_13)]; first | exact fm_cF1 c_144 | exact fm_cT c_144 (by rw [fm_w3, decide_eq_true c_151]; rfl) | exact fm_cT c_144 (by rw [fm_w3, decide_eq_true (Nat.lt_of_not_le c_165), Bool.or_true]) | exact fm_cF2 (by rw [fm_w3, decide_eq_false c_151, decide_eq_false (Nat.not_lt.mpr c_165)]; rfl), ht⟩) (fun q hq => by cases hq) d_MO_isWordRight_173
            · have c_107 : (fm_th (fm_RB f) (fm_AT (fm_RB f) 6 k 3)) = true := fm_bI_t c0
              refine lv_goto (tgt := 135) hx hb d_MO_isWordRight_110 (by decide) ?_
              refine lv_iconst (v := nI (1)) hx hb d_MO_isWordRight_135 (by decide) ?_
              refine lv_goto (tgt := 140) hx hb d_MO_isWordRight_136 (by decide) ?_
              refine fm_tw (z := (fm_bI (fm_w1 (fm_RB f) k && fm_w2 (fm_RB f) k))) (by first | exact fm_cF1 c_90 | exact fm_cT c_90 (fm_w2_1 c_98 c_107) | exact fm_cF2 (fm_w2_1 c_98 c_107) | exact fm_cT c_90 (fm_w2_t c_98 c_132) | exact fm_cF2 (fm_w2_f c_98 c_132)) ?_
              refine lv_istore (lv' := [(6, .int (fm_bI (fm_w1 (fm_RB f) k && fm_w2 (fm_RB f) k))), (5, .int (nI (fm_AT (fm_RB f) 6 k 3))), (4, .int (nI (fm_AT (fm_RB f) 6 k 2))), (3, .int (nI (fm_AT (fm_RB f) 6 k 1))), (2, .int (nI (fm_AT (fm_RB f) 6 k 0))), (0, .ref fa), (1, .int (nI (k)))]) hx hb d_MO_isWordRight_140 hl (by decide) rfl (fun ls hl => ?_)
              refine lv_iload hx hb d_MO_isWordRight_142 (lv_at hl 0 rfl) ?_
              refine lv_if_eq (tgt := 172) hx hb d_MO_isWordRight_144 (by decide) (fun c0 => ?_) (fun c0 => ?_)
              · have c_144 : (fm_w1 (fm_RB f) k && fm_w2 (fm_RB f) k) = false := fm_bI_f c0
                refine lv_iconst (v := nI (0)) hx hb d_MO_isWordRight_172 (by decide) ?_
                exact W.zret (ty := .boolean) hx hb hr (rfl) (fun t ht hW => ⟨_, rfl, by rw [fm_word1, if_neg (Nat.not_lt.mpr c_13)]; first | exact fm_cF1 c_144 | exact fm_cT c_144 (by rw [fm_w3, decide_eq_true c_151]; rfl) | exact fm_cT c_144 (by rw [fm_w3, decide_eq_true (Nat.lt_of_not_le c_165), Bool.or_true]) | exact fm_cF2 (by rw [fm_w3, decide_eq_false c_151, decide_eq_false (Nat.not_lt.mpr c_165)]; rfl), ht⟩) (fun q hq => by cases hq) d_MO_isWordRight_173
              · have c_144 : (fm_w1 (fm_RB f) k && fm_w2 (fm_RB f) k) = true := fm_bI_t c0
                refine lv_iload_n hx hb d_MO_isWordRight_147 rfl (lv_at hl 4 rfl) ?_
                refine lv_sipush (v := nI (128)) hx hb d_MO_isWordRight_148 (by decide) ?_
                refine lv_icmp_eq (tgt := 168) hx hb d_MO_isWordRight_151 (by decide) (fun c0 => ?_) (fun c0 => ?_)
                · have c_151 : fm_AT (fm_RB f) 6 k 0 = 128 := (nI_eq (a := fm_AT (fm_RB f) 6 k 0) (b := 128) (by omega) (by omega)).mp c0
                  refine lv_iconst (v := nI (1)) hx hb d_MO_isWordRight_168 (by decide) ?_
                  refine lv_goto (tgt := 173) hx hb d_MO_isWordRight_169 (by decide) ?_
                  exact W.zret (ty := .boolean) hx hb hr (rfl) (fun t ht hW => ⟨_, rfl, by rw [fm_word1, if_neg (Nat.not_lt.mpr c_13)]; first | exact fm_cF1 c_144 | exact fm_cT c_144 (by rw [fm_w3, decide_eq_true c_151]; rfl) | exact fm_cT c_144 (by rw [fm_w3, decide_eq_true (Nat.lt_of_not_le c_165), Bool.or_true]) | exact fm_cF2 (by rw [fm_w3, decide_eq_false c_151, decide_eq_false (Nat.not_lt.mpr c_165)]; rfl), ht⟩) (fun q hq => by cases hq) d_MO_isWordRight_173
                · have c_151 : ¬ (fm_AT (fm_RB f) 6 k 0 = 128) := fun z => c0 ((nI_eq (a := fm_AT (fm_RB f) 6 k 0) (b := 128) (by omega) (by omega)).mpr z)
                  refine lv_iload_n hx hb d_MO_isWordRight_154 rfl (lv_at hl 6 rfl) ?_
                  refine lv_iload_n hx hb d_MO_isWordRight_155 rfl (lv_at hl 4 rfl) ?_
                  refine lv_iadd hx hb d_MO_isWordRight_156 ?_
                  refine fm_tw (z := nI (k + fm_AT (fm_RB f) 6 k 0)) (nI_add _ _) ?_
                  refine lv_iconst (v := nI (1)) hx hb d_MO_isWordRight_157 (by decide) ?_
                  refine lv_iadd hx hb d_MO_isWordRight_158 ?_
                  refine fm_tw (z := nI (k + fm_AT (fm_RB f) 6 k 0 + 1)) (nI_add _ _) ?_
                  refine lv_aload_n hx hb d_MO_isWordRight_159 rfl (lv_at hl 5 rfl) ?_
                  refine lv_bipush (v := nI (6)) hx hb d_MO_isWordRight_160 (by decide) ?_
                  refine fm_cs S (c_MO_words l dC dI fa cB f 6 (by omega) (fun _ => hq)) rfl rfl k_MO_words q_3_175 ⟨Nat.le_of_ble_eq_true rfl, Nat.le_of_ble_eq_true rfl⟩ (hP.sub [0] rfl) (hK.sub [0] rfl) rfl hl.1 rfl (Nat.le_of_ble_eq_true rfl) ⟨Nat.zero_le _, Nat.zero_le _⟩ d_MO_isWordRight_162 ?_
                  have f0_162 := fm_WD_le (fm_RB_lt f) 6
                  refine lv_icmp_ge (tgt := 172) hx hb d_MO_isWordRight_165 (by decide) (fun c0 => ?_) (fun c0 => ?_)
                  · have c_165 : fm_WD (fm_RB f) 6 ≤ k + fm_AT (fm_RB f) 6 k 0 + 1 := (nI_leI (a := fm_WD (fm_RB f) 6) (b := k + fm_AT (fm_RB f) 6 k 0 + 1) (by omega) (by omega)).mp c0
                    refine lv_iconst (v := nI (0)) hx hb d_MO_isWordRight_172 (by decide) ?_
                    exact W.zret (ty := .boolean) hx hb hr (rfl) (fun t ht hW => ⟨_, rfl, by rw [fm_word1, if_neg (Nat.not_lt.mpr c_13)]; first | exact fm_cF1 c_144 | exact fm_cT c_144 (by rw [fm_w3, decide_eq_true c_151]; rfl) | exact fm_cT c_144 (by rw [fm_w3, decide_eq_true (Nat.lt_of_not_le c_165), Bool.or_true]) | exact fm_cF2 (by rw [fm_w3, decide_eq_false c_151, decide_eq_false (Nat.not_lt.mpr c_165)]; rfl), ht⟩) (fun q hq => by cases hq) d_MO_isWordRight_173
                  · have c_165 : ¬ (fm_WD (fm_RB f) 6 ≤ k + fm_AT (fm_RB f) 6 k 0 + 1) := fun z => c0 ((nI_leI (a := fm_WD (fm_RB f) 6) (b := k + fm_AT (fm_RB f) 6 k 0 + 1) (by omega) (by omega)).mpr z)
                    refine lv_iconst (v := nI (1)) hx hb d_MO_isWordRight_168 (by decide) ?_
                    refine lv_goto (tgt := 173) hx hb d_MO_isWordRight_169 (by decide) ?_
                    exact W.zret (ty := .boolean) hx hb hr (rfl) (fun t ht hW => ⟨_, rfl, by rw [fm_word1, if_neg (Nat.not_lt.mpr c_13)]; first | exact fm_cF1 c_144 | exact fm_cT c_144 (by rw [fm_w3, decide_eq_true c_151]; rfl) | exact fm_cT c_144 (by rw [fm_w3, decide_eq_true (Nat.lt_of_not_le c_165), Bool.or_true]) | exact fm_cF2 (by rw [fm_w3, decide_eq_false c_151, decide_eq_false (Nat.not_lt.mpr c_165)]; rfl), ht⟩) (fun q hq => by cases hq) d_MO_isWordRight_173
  · have c_13 : ¬ (fm_AT (fm_RB f) 6 k 0 ≤ 128) := fun z => c0 ((nI_leI (a := fm_AT (fm_RB f) 6 k 0) (b := 128) (by omega) (by omega)).mpr z)
    refine lv_aload_n hx hb d_MO_isWordRight_16 rfl (lv_at hl 1 rfl) ?_
    refine lv_iload_n hx hb d_MO_isWordRight_17 rfl (lv_at hl 2 rfl) ?_
    refine fm_cs S (c_MO_far l dC dI fa cB f k (hq) (by omega)) rfl rfl k_MO_far q_3_218 ⟨Nat.le_of_ble_eq_true rfl, Nat.le_of_ble_eq_true rfl⟩ (hP.sub [0] rfl) (hK.sub [0] rfl) rfl hl.1 rfl (Nat.le_of_ble_eq_true rfl) ⟨Nat.zero_le _, Nat.zero_le _⟩ d_MO_isWordRight_18 ?_
    have f0_18 := fm_FAR_lt (fm_RB_lt f) k
    refine lv_aload_n hx hb d_MO_isWordRight_21 rfl (lv_at hl 1 rfl) ?_
    refine lv_bipush (v := nI (6)) hx hb d_MO_isWordRight_22 (by decide) ?_
    refine fm_cs S (c_MO_words l dC dI fa cB f 6 (by omega) (fun _ => hq)) rfl rfl k_MO_words q_3_175 ⟨Nat.le_of_ble_eq_true rfl, Nat.le_of_ble_eq_true rfl⟩ (hP.sub [0] rfl) (hK.sub [0] rfl) rfl hl.1 rfl (Nat.le_of_ble_eq_true rfl) ⟨Nat.zero_le _, Nat.zero_le _⟩ d_MO_isWordRight_24 ?_
    have f0_24 := fm_WD_le (fm_RB_lt f) 6
    refine lv_icmp_ge (tgt := 34) hx hb d_MO_isWordRight_27 (by decide) (fun c0 => ?_) (fun c0 => ?_)
    · have c_27 : fm_WD (fm_RB f) 6 ≤ fm_FAR (fm_RB f) k := (nI_leI (a := fm_WD (fm_RB f) 6) (b := fm_FAR (fm_RB f) k) (by omega) (by omega)).mp c0
      refine lv_iconst (v := nI (0)) hx hb d_MO_isWordRight_34 (by decide) ?_
      exact W.zret (ty := .boolean) hx hb hr (rfl) (fun t ht hW => ⟨_, rfl, by first | (refine fm_bI_1 ?_; rw [fm_word1, if_pos (Nat.lt_of_not_le c_13)]; exact decide_eq_true (Nat.lt_of_not_le c_27)) | (refine fm_bI_0 ?_; rw [fm_word1, if_pos (Nat.lt_of_not_le c_13)]; exact decide_eq_false (Nat.not_lt.mpr c_27)), ht⟩) (fun q hq => by cases hq) d_MO_isWordRight_35
    · have c_27 : ¬ (fm_WD (fm_RB f) 6 ≤ fm_FAR (fm_RB f) k) := fun z => c0 ((nI_leI (a := fm_WD (fm_RB f) 6) (b := fm_FAR (fm_RB f) k) (by omega) (by omega)).mpr z)
      refine lv_iconst (v := nI (1)) hx hb d_MO_isWordRight_30 (by decide) ?_
      refine lv_goto (tgt := 35) hx hb d_MO_isWordRight_31 (by decide) ?_
      exact W.zret (ty := .boolean) hx hb hr (rfl) (fun t ht hW => ⟨_, rfl, by first | (refine fm_bI_1 ?_; rw [fm_word1, if_pos (Nat.lt_of_not_le c_13)]; exact decide_eq_true (Nat.lt_of_not_le c_27)) | (refine fm_bI_0 ?_; rw [fm_word1, if_pos (Nat.lt_of_not_le c_13)]; exact decide_eq_false (Nat.not_lt.mpr c_27)), ht⟩) (fun q hq => by cases hq) d_MO_isWordRight_35
theorem d_MO_isProgramRight_0 : decode b_MO_isProgramRight 0 = .ok (.iconst 1, 1) := by decide +kernel
theorem d_MO_isProgramRight_1 : decode b_MO_isProgramRight 1 = .ok (.istore_n 1, 1) := by decide +kernel
theorem d_MO_isProgramRight_2 : decode b_MO_isProgramRight 2 = .ok (.iconst 0, 1) := by decide +kernel
theorem d_MO_isProgramRight_3 : decode b_MO_isProgramRight 3 = .ok (.istore_n 2, 1) := by decide +kernel
theorem d_MO_isProgramRight_4 : decode b_MO_isProgramRight 4 = .ok (.iload_n 2, 1) := by decide +kernel
theorem d_MO_isProgramRight_5 : decode b_MO_isProgramRight 5 = .ok (.aload_n 0, 1) := by decide +kernel
theorem d_MO_isProgramRight_6 : decode b_MO_isProgramRight 6 = .ok (.bipush 6, 2) := by decide +kernel
theorem d_MO_isProgramRight_8 : decode b_MO_isProgramRight 8 = .ok (.invokestatic 37, 3) := by decide +kernel
theorem d_MO_isProgramRight_11 : decode b_MO_isProgramRight 11 = .ok (.if_icmp .ge 27, 3) := by decide +kernel
theorem d_MO_isProgramRight_14 : decode b_MO_isProgramRight 14 = .ok (.iload_n 1, 1) := by decide +kernel
theorem d_MO_isProgramRight_15 : decode b_MO_isProgramRight 15 = .ok (.ifCond .eq 15, 3) := by decide +kernel
theorem d_MO_isProgramRight_18 : decode b_MO_isProgramRight 18 = .ok (.aload_n 0, 1) := by decide +kernel
theorem d_MO_isProgramRight_19 : decode b_MO_isProgramRight 19 = .ok (.iload_n 2, 1) := by decide +kernel
theorem d_MO_isProgramRight_20 : decode b_MO_isProgramRight 20 = .ok (.invokestatic 71, 3) := by decide +kernel
theorem d_MO_isProgramRight_23 : decode b_MO_isProgramRight 23 = .ok (.ifCond .eq 7, 3) := by decide +kernel
theorem d_MO_isProgramRight_26 : decode b_MO_isProgramRight 26 = .ok (.iconst 1, 1) := by decide +kernel
theorem d_MO_isProgramRight_27 : decode b_MO_isProgramRight 27 = .ok (.goto 4, 3) := by decide +kernel
theorem d_MO_isProgramRight_30 : decode b_MO_isProgramRight 30 = .ok (.iconst 0, 1) := by decide +kernel
theorem d_MO_isProgramRight_31 : decode b_MO_isProgramRight 31 = .ok (.istore_n 1, 1) := by decide +kernel
theorem d_MO_isProgramRight_32 : decode b_MO_isProgramRight 32 = .ok (.iinc 2 1, 3) := by decide +kernel
theorem d_MO_isProgramRight_35 : decode b_MO_isProgramRight 35 = .ok (.goto (-31), 3) := by decide +kernel
theorem d_MO_isProgramRight_38 : decode b_MO_isProgramRight 38 = .ok (.iload_n 1, 1) := by decide +kernel
theorem d_MO_isProgramRight_39 : decode b_MO_isProgramRight 39 = .ok (.ireturn, 1) := by decide +kernel
set_option maxHeartbeats 4000000 in
set_option maxRecDepth 100000 in
theorem c_MO_isProgramRight (l : Launch) (dC : Nat → ClassId) (dI : Nat → Nat → Nat) (fa : Nat) (cB : ClassId) (f : Nat → Int32) (hL : fm_Len (fm_RB f)) : fm_M l (dC, dI) y_MO_isProgramRight w_MO_isProgramRight ({ frames := 6, cells := 0, slots := 0, locals := 135 }) [.ref fa] [(fa, .inl (cB, 8192, .inl (f)))] [(cB, .byte)] ((fm_bI (fm_all (fm_WD (fm_RB f) 6) (fm_word1 (fm_RB f))))) := by
  refine Met.ofW (cc := b_MO_isProgramRight) (maxL := 3) (ret := (some .boolean)) (by decide) rfl ?_
  intro pg ev s m args below meth cd s₁ BD hml hv
  obtain ⟨rfl, hP, hK⟩ := hv
  have hx := BD.exec
  have hb := BD.bytes
  have hr := BD.returns
  have hts := atoms_spec (ws := w_MO_isProgramRight) BD.pre
  have ht : ∀ w ∈ fm_T, w.before _ s = true := fun w h => hts w (List.mem_cons_of_mem _ h)
  have hown : s.vm.findClass R_MO = some m.cls := findClass_of_methodNamed BD.named
  have hlocks := BD.notSynchronized
  have S : CallFix pg m cd b_MO_isProgramRight 3 s _ w_MO_isProgramRight R_MO := ⟨hx, hb, hml, hown, hts⟩
  have hl := lv_entry ([.ref fa]) (n := 3) (Nat.le_of_ble_eq_true rfl)
  rw [lg_entry_eq]
  generalize (lg_sl ([.ref fa]) ++ List.replicate (3 - (lg_sl ([.ref fa])).length) Slot.unset).toArray = ls at hl ⊢
  have hl : lv_has ls 3 [(0, .ref fa)] := hl
  obtain ⟨-, hq, h3, h10⟩ := id hL
  refine lv_iconst (v := nI (1)) hx hb d_MO_isProgramRight_0 (by decide) ?_
  refine lv_istore_n (lv' := [(1, .int (nI (1))), (0, .ref fa)]) hx hb d_MO_isProgramRight_1 rfl hl (by decide) rfl (fun ls hl => ?_)
  refine lv_iconst (v := nI (0)) hx hb d_MO_isProgramRight_2 (by decide) ?_
  refine lv_istore_n (lv' := [(2, .int (nI (0))), (1, .int (nI (1))), (0, .ref fa)]) hx hb d_MO_isProgramRight_3 rfl hl (by decide) rfl (fun ls hl => ?_)
  refine fm_loop1 (LV := fun (i : Nat) => [(0, .ref fa), (1, .int (fm_bI (fm_all (i) (fm_word1 (fm_RB f))))), (2, .int (nI (i)))]) (I := fun (i : Nat) => i ≤ fm_WD (fm_RB f) 6) (μ := fun (i : Nat) => fm_WD (fm_RB f) 6 - i) ?_ 0 (Nat.zero_le _) ls (lv_sub hl [2, 1, 0] rfl)
  intro i hI_4 ih_4 ls hl
  have hl : lv_has ls 3 [(0, .ref fa), (1, .int (fm_bI (fm_all (i) (fm_word1 (fm_RB f))))), (2, .int (nI (i)))] := hl
  refine lv_iload_n hx hb d_MO_isProgramRight_4 rfl (lv_at hl 2 rfl) ?_
  refine lv_aload_n hx hb d_MO_isProgramRight_5 rfl (lv_at hl 0 rfl) ?_
  refine lv_bipush (v := nI (6)) hx hb d_MO_isProgramRight_6 (by decide) ?_
  refine fm_cs S (c_MO_words l dC dI fa cB f 6 (by omega) (fun _ => hq)) rfl rfl k_MO_words q_3_175 ⟨Nat.le_of_ble_eq_true rfl, Nat.le_of_ble_eq_true rfl⟩ (hP.sub [0] rfl) (hK.sub [0] rfl) rfl hl.1 rfl (Nat.le_of_ble_eq_true rfl) ⟨Nat.zero_le _, Nat.zero_le _⟩ d_MO_isProgramRight_8 ?_
  have f0_8 := fm_WD_le (fm_RB_lt f) 6
  refine lv_icmp_ge (tgt := 38) hx hb d_MO_isProgramRight_11 (by decide) (fun c0 => ?_) (fun c0 => ?_)
  · have c_11 : fm_WD (fm_RB f) 6 ≤ i := (nI_leI (a := fm_WD (fm_RB f) 6) (b := i) (by omega) (by omega)).mp c0
    refine lv_iload_n hx hb d_MO_isProgramRight_38 rfl (lv_at hl 1 rfl) ?_
    exact W.zret (ty := .boolean) hx hb hr (fm_bI_z _) (fun t ht hW => ⟨_, rfl, by rw [show fm_WD (fm_RB f) 6 = i by omega], ht⟩) (fun q hq => by cases hq) d_MO_isProgramRight_39
  · have c_11 : ¬ (fm_WD (fm_RB f) 6 ≤ i) := fun z => c0 ((nI_leI (a := fm_WD (fm_RB f) 6) (b := i) (by omega) (by omega)).mpr z)
    refine lv_iload_n hx hb d_MO_isProgramRight_14 rfl (lv_at hl 1 rfl) ?_
    refine lv_if_eq (tgt := 30) hx hb d_MO_isProgramRight_15 (by decide) (fun c0 => ?_) (fun c0 => ?_)
    · have c_15 : (fm_all (i) (fm_word1 (fm_RB f))) = false := fm_bI_f c0
      refine lv_iconst (v := nI (0)) hx hb d_MO_isProgramRight_30 (by decide) ?_
      refine fm_tw (z := (fm_bI (fm_all (i + 1) (fm_word1 (fm_RB f))))) (by first | exact fm_stF1 c_15 | exact fm_stT c_15 c_23 | exact fm_stF2 c_23) ?_
      refine lv_istore_n (lv' := [(1, .int (fm_bI (fm_all (i + 1) (fm_word1 (fm_RB f))))), (0, .ref fa), (2, .int (nI (i)))]) hx hb d_MO_isProgramRight_31 rfl hl (by decide) rfl (fun ls hl => ?_)
      refine lv_iinc (v := nI (i + 1)) (lv' := [(2, .int (nI (i + 1))), (1, .int (fm_bI (fm_all (i + 1) (fm_word1 (fm_RB f))))), (0, .ref fa)]) hx hb d_MO_isProgramRight_32 hl (k := 2) rfl (nI_1 _) (by decide) rfl (fun ls hl => ?_)
      refine lv_goto (tgt := 4) hx hb d_MO_isProgramRight_35 (by decide) ?_
      exact ih_4 (i + 1) ls (by omega) (by omega) (lv_sub hl [2, 1, 0] rfl)
    · have c_15 : (fm_all (i) (fm_word1 (fm_RB f))) = true := fm_bI_t c0
      refine lv_aload_n hx hb d_MO_isProgramRight_18 rfl (lv_at hl 0 rfl) ?_
      refine lv_iload_n hx hb d_MO_isProgramRight_19 rfl (lv_at hl 2 rfl) ?_
      refine fm_cs S (c_MO_isWordRight l dC dI fa cB f i (hL) (by omega)) rfl rfl k_MO_isWordRight q_3_215 ⟨Nat.le_of_ble_eq_true rfl, Nat.le_of_ble_eq_true rfl⟩ (hP.sub [0] rfl) (hK.sub [0] rfl) rfl hl.1 rfl (Nat.le_of_ble_eq_true rfl) ⟨Nat.zero_le _, Nat.zero_le _⟩ d_MO_isProgramRight_20 ?_
      refine lv_if_eq (tgt := 30) hx hb d_MO_isProgramRight_23 (by decide) (fun c0 => ?_) (fun c0 => ?_)
      · have c_23 : (fm_word1 (fm_RB f) i) = false := fm_bI_f c0
        refine lv_iconst (v := nI (0)) hx hb d_MO_isProgramRight_30 (by decide) ?_
        refine fm_tw (z := (fm_bI (fm_all (i + 1) (fm_word1 (fm_RB f))))) (by first | exact fm_stF1 c_15 | exact fm_stT c_15 c_23 | exact fm_stF2 c_23) ?_
        refine lv_istore_n (lv' := [(1, .int (fm_bI (fm_all (i + 1) (fm_word1 (fm_RB f))))), (0, .ref fa), (2, .int (nI (i)))]) hx hb d_MO_isProgramRight_31 rfl hl (by decide) rfl (fun ls hl => ?_)
        refine lv_iinc (v := nI (i + 1)) (lv' := [(2, .int (nI (i + 1))), (1, .int (fm_bI (fm_all (i + 1) (fm_word1 (fm_RB f))))), (0, .ref fa)]) hx hb d_MO_isProgramRight_32 hl (k := 2) rfl (nI_1 _) (by decide) rfl (fun ls hl => ?_)
        refine lv_goto (tgt := 4) hx hb d_MO_isProgramRight_35 (by decide) ?_
        exact ih_4 (i + 1) ls (by omega) (by omega) (lv_sub hl [2, 1, 0] rfl)
      · have c_23 : (fm_word1 (fm_RB f) i) = true := fm_bI_t c0
        refine lv_iconst (v := nI (1)) hx hb d_MO_isProgramRight_26 (by decide) ?_
        refine lv_goto (tgt := 31) hx hb d_MO_isProgramRight_27 (by decide) ?_
        refine fm_tw (z := (fm_bI (fm_all (i + 1) (fm_word1 (fm_RB f))))) (by first | exact fm_stF1 c_15 | exact fm_stT c_15 c_23 | exact fm_stF2 c_23) ?_
        refine lv_istore_n (lv' := [(1, .int (fm_bI (fm_all (i + 1) (fm_word1 (fm_RB f))))), (0, .ref fa), (2, .int (nI (i)))]) hx hb d_MO_isProgramRight_31 rfl hl (by decide) rfl (fun ls hl => ?_)
        refine lv_iinc (v := nI (i + 1)) (lv' := [(2, .int (nI (i + 1))), (1, .int (fm_bI (fm_all (i + 1) (fm_word1 (fm_RB f))))), (0, .ref fa)]) hx hb d_MO_isProgramRight_32 hl (k := 2) rfl (nI_1 _) (by decide) rfl (fun ls hl => ?_)
        refine lv_goto (tgt := 4) hx hb d_MO_isProgramRight_35 (by decide) ?_
        exact ih_4 (i + 1) ls (by omega) (by omega) (lv_sub hl [2, 1, 0] rfl)
theorem d_MO_areRecipesRight_0 : decode b_MO_areRecipesRight 0 = .ok (.iconst 1, 1) := by decide +kernel
theorem d_MO_areRecipesRight_1 : decode b_MO_areRecipesRight 1 = .ok (.istore_n 1, 1) := by decide +kernel
theorem d_MO_areRecipesRight_2 : decode b_MO_areRecipesRight 2 = .ok (.iconst 0, 1) := by decide +kernel
theorem d_MO_areRecipesRight_3 : decode b_MO_areRecipesRight 3 = .ok (.istore_n 2, 1) := by decide +kernel
theorem d_MO_areRecipesRight_4 : decode b_MO_areRecipesRight 4 = .ok (.iload_n 2, 1) := by decide +kernel
theorem d_MO_areRecipesRight_5 : decode b_MO_areRecipesRight 5 = .ok (.aload_n 0, 1) := by decide +kernel
theorem d_MO_areRecipesRight_6 : decode b_MO_areRecipesRight 6 = .ok (.bipush 8, 2) := by decide +kernel
theorem d_MO_areRecipesRight_8 : decode b_MO_areRecipesRight 8 = .ok (.invokestatic 37, 3) := by decide +kernel
theorem d_MO_areRecipesRight_11 : decode b_MO_areRecipesRight 11 = .ok (.if_icmp .ge 83, 3) := by decide +kernel
theorem d_MO_areRecipesRight_14 : decode b_MO_areRecipesRight 14 = .ok (.iload_n 1, 1) := by decide +kernel
theorem d_MO_areRecipesRight_15 : decode b_MO_areRecipesRight 15 = .ok (.ifCond .eq 22, 3) := by decide +kernel
theorem d_MO_areRecipesRight_18 : decode b_MO_areRecipesRight 18 = .ok (.aload_n 0, 1) := by decide +kernel
theorem d_MO_areRecipesRight_19 : decode b_MO_areRecipesRight 19 = .ok (.aload_n 0, 1) := by decide +kernel
theorem d_MO_areRecipesRight_20 : decode b_MO_areRecipesRight 20 = .ok (.bipush 8, 2) := by decide +kernel
theorem d_MO_areRecipesRight_22 : decode b_MO_areRecipesRight 22 = .ok (.iload_n 2, 1) := by decide +kernel
theorem d_MO_areRecipesRight_23 : decode b_MO_areRecipesRight 23 = .ok (.iconst 3, 1) := by decide +kernel
theorem d_MO_areRecipesRight_24 : decode b_MO_areRecipesRight 24 = .ok (.invokestatic 43, 3) := by decide +kernel
theorem d_MO_areRecipesRight_27 : decode b_MO_areRecipesRight 27 = .ok (.invokestatic 53, 3) := by decide +kernel
theorem d_MO_areRecipesRight_30 : decode b_MO_areRecipesRight 30 = .ok (.ifCond .eq 7, 3) := by decide +kernel
theorem d_MO_areRecipesRight_33 : decode b_MO_areRecipesRight 33 = .ok (.iconst 1, 1) := by decide +kernel
theorem d_MO_areRecipesRight_34 : decode b_MO_areRecipesRight 34 = .ok (.goto 4, 3) := by decide +kernel
theorem d_MO_areRecipesRight_37 : decode b_MO_areRecipesRight 37 = .ok (.iconst 0, 1) := by decide +kernel
theorem d_MO_areRecipesRight_38 : decode b_MO_areRecipesRight 38 = .ok (.istore_n 1, 1) := by decide +kernel
theorem d_MO_areRecipesRight_39 : decode b_MO_areRecipesRight 39 = .ok (.iconst 0, 1) := by decide +kernel
theorem d_MO_areRecipesRight_40 : decode b_MO_areRecipesRight 40 = .ok (.istore_n 3, 1) := by decide +kernel
theorem d_MO_areRecipesRight_41 : decode b_MO_areRecipesRight 41 = .ok (.iload_n 3, 1) := by decide +kernel
theorem d_MO_areRecipesRight_42 : decode b_MO_areRecipesRight 42 = .ok (.iconst 3, 1) := by decide +kernel
theorem d_MO_areRecipesRight_43 : decode b_MO_areRecipesRight 43 = .ok (.if_icmp .ge 45, 3) := by decide +kernel
theorem d_MO_areRecipesRight_46 : decode b_MO_areRecipesRight 46 = .ok (.iload_n 1, 1) := by decide +kernel
theorem d_MO_areRecipesRight_47 : decode b_MO_areRecipesRight 47 = .ok (.ifCond .eq 33, 3) := by decide +kernel
theorem d_MO_areRecipesRight_50 : decode b_MO_areRecipesRight 50 = .ok (.aload_n 0, 1) := by decide +kernel
theorem d_MO_areRecipesRight_51 : decode b_MO_areRecipesRight 51 = .ok (.bipush 8, 2) := by decide +kernel
theorem d_MO_areRecipesRight_53 : decode b_MO_areRecipesRight 53 = .ok (.iload_n 2, 1) := by decide +kernel
theorem d_MO_areRecipesRight_54 : decode b_MO_areRecipesRight 54 = .ok (.iload_n 3, 1) := by decide +kernel
theorem d_MO_areRecipesRight_55 : decode b_MO_areRecipesRight 55 = .ok (.invokestatic 43, 3) := by decide +kernel
theorem d_MO_areRecipesRight_58 : decode b_MO_areRecipesRight 58 = .ok (.ifCond .eq 18, 3) := by decide +kernel
theorem d_MO_areRecipesRight_61 : decode b_MO_areRecipesRight 61 = .ok (.aload_n 0, 1) := by decide +kernel
theorem d_MO_areRecipesRight_62 : decode b_MO_areRecipesRight 62 = .ok (.aload_n 0, 1) := by decide +kernel
theorem d_MO_areRecipesRight_63 : decode b_MO_areRecipesRight 63 = .ok (.bipush 8, 2) := by decide +kernel
theorem d_MO_areRecipesRight_65 : decode b_MO_areRecipesRight 65 = .ok (.iload_n 2, 1) := by decide +kernel
theorem d_MO_areRecipesRight_66 : decode b_MO_areRecipesRight 66 = .ok (.iload_n 3, 1) := by decide +kernel
theorem d_MO_areRecipesRight_67 : decode b_MO_areRecipesRight 67 = .ok (.invokestatic 43, 3) := by decide +kernel
theorem d_MO_areRecipesRight_70 : decode b_MO_areRecipesRight 70 = .ok (.invokestatic 53, 3) := by decide +kernel
theorem d_MO_areRecipesRight_73 : decode b_MO_areRecipesRight 73 = .ok (.ifCond .eq 7, 3) := by decide +kernel
theorem d_MO_areRecipesRight_76 : decode b_MO_areRecipesRight 76 = .ok (.iconst 1, 1) := by decide +kernel
theorem d_MO_areRecipesRight_77 : decode b_MO_areRecipesRight 77 = .ok (.goto 4, 3) := by decide +kernel
theorem d_MO_areRecipesRight_80 : decode b_MO_areRecipesRight 80 = .ok (.iconst 0, 1) := by decide +kernel
theorem d_MO_areRecipesRight_81 : decode b_MO_areRecipesRight 81 = .ok (.istore_n 1, 1) := by decide +kernel
theorem d_MO_areRecipesRight_82 : decode b_MO_areRecipesRight 82 = .ok (.iinc 3 1, 3) := by decide +kernel
theorem d_MO_areRecipesRight_85 : decode b_MO_areRecipesRight 85 = .ok (.goto (-44), 3) := by decide +kernel
theorem d_MO_areRecipesRight_88 : decode b_MO_areRecipesRight 88 = .ok (.iinc 2 1, 3) := by decide +kernel
theorem d_MO_areRecipesRight_91 : decode b_MO_areRecipesRight 91 = .ok (.goto (-87), 3) := by decide +kernel
theorem d_MO_areRecipesRight_94 : decode b_MO_areRecipesRight 94 = .ok (.iload_n 1, 1) := by decide +kernel
theorem d_MO_areRecipesRight_95 : decode b_MO_areRecipesRight 95 = .ok (.ireturn, 1) := by decide +kernel
set_option maxHeartbeats 4000000 in
set_option maxRecDepth 100000 in
theorem c_MO_areRecipesRight (l : Launch) (dC : Nat → ClassId) (dI : Nat → Nat → Nat) (fa : Nat) (cB : ClassId) (f : Nat → Int32) (hL : fm_Len (fm_RB f)) : fm_M l (dC, dI) y_MO_areRecipesRight w_MO_areRecipesRight ({ frames := 5, cells := 0, slots := 0, locals := 109 }) [.ref fa] [(fa, .inl (cB, 8192, .inl (f)))] [(cB, .byte)] ((fm_bI (fm_all (fm_WD (fm_RB f) 8) (fm_recipe1 (fm_RB f))))) := by
  refine Met.ofW (cc := b_MO_areRecipesRight) (maxL := 4) (ret := (some .boolean)) (by decide) rfl ?_
  intro pg ev s m args below meth cd s₁ BD hml hv
  obtain ⟨rfl, hP, hK⟩ := hv
  have hx := BD.exec
  have hb := BD.bytes
  have hr := BD.returns
  have hts := atoms_spec (ws := w_MO_areRecipesRight) BD.pre
  have ht : ∀ w ∈ fm_T, w.before _ s = true := fun w h => hts w (List.mem_cons_of_mem _ h)
  have hown : s.vm.findClass R_MO = some m.cls := findClass_of_methodNamed BD.named
  have hlocks := BD.notSynchronized
  have S : CallFix pg m cd b_MO_areRecipesRight 4 s _ w_MO_areRecipesRight R_MO := ⟨hx, hb, hml, hown, hts⟩
  have hl := lv_entry ([.ref fa]) (n := 4) (Nat.le_of_ble_eq_true rfl)
  rw [lg_entry_eq]
  generalize (lg_sl ([.ref fa]) ++ List.replicate (4 - (lg_sl ([.ref fa])).length) Slot.unset).toArray = ls at hl ⊢
  have hl : lv_has ls 4 [(0, .ref fa)] := hl
  obtain ⟨-, hq, h3, h10⟩ := id hL
  refine lv_iconst (v := nI (1)) hx hb d_MO_areRecipesRight_0 (by decide) ?_
  refine lv_istore_n (lv' := [(1, .int (nI (1))), (0, .ref fa)]) hx hb d_MO_areRecipesRight_1 rfl hl (by decide) rfl (fun ls hl => ?_)
  refine lv_iconst (v := nI (0)) hx hb d_MO_areRecipesRight_2 (by decide) ?_
  refine lv_istore_n (lv' := [(2, .int (nI (0))), (1, .int (nI (1))), (0, .ref fa)]) hx hb d_MO_areRecipesRight_3 rfl hl (by decide) rfl (fun ls hl => ?_)
  refine fm_loop1 (LV := fun (i : Nat) => [(0, .ref fa), (1, .int (fm_bI (fm_all (i) (fm_recipe1 (fm_RB f))))), (2, .int (nI (i)))]) (I := fun (i : Nat) => i ≤ fm_WD (fm_RB f) 8) (μ := fun (i : Nat) => fm_WD (fm_RB f) 8 - i) ?_ 0 (Nat.zero_le _) ls (lv_sub hl [2, 1, 0] rfl)
  intro i hI_4 ih_4 ls hl
  have hl : lv_has ls 4 [(0, .ref fa), (1, .int (fm_bI (fm_all (i) (fm_recipe1 (fm_RB f))))), (2, .int (nI (i)))] := hl
  refine lv_iload_n hx hb d_MO_areRecipesRight_4 rfl (lv_at hl 2 rfl) ?_
  refine lv_aload_n hx hb d_MO_areRecipesRight_5 rfl (lv_at hl 0 rfl) ?_
  refine lv_bipush (v := nI (8)) hx hb d_MO_areRecipesRight_6 (by decide) ?_
  refine fm_cs S (c_MO_words l dC dI fa cB f 8 (by omega) (fun _ => hq)) rfl rfl k_MO_words q_3_175 ⟨Nat.le_of_ble_eq_true rfl, Nat.le_of_ble_eq_true rfl⟩ (hP.sub [0] rfl) (hK.sub [0] rfl) rfl hl.1 rfl (Nat.le_of_ble_eq_true rfl) ⟨Nat.zero_le _, Nat.zero_le _⟩ d_MO_areRecipesRight_8 ?_
  have f0_8 := fm_WD_le (fm_RB_lt f) 8
  refine lv_icmp_ge (tgt := 94) hx hb d_MO_areRecipesRight_11 (by decide) (fun c0 => ?_) (fun c0 => ?_)
  · have c_11 : fm_WD (fm_RB f) 8 ≤ i := (nI_leI (a := fm_WD (fm_RB f) 8) (b := i) (by omega) (by omega)).mp c0
    refine lv_iload_n hx hb d_MO_areRecipesRight_94 rfl (lv_at hl 1 rfl) ?_
    exact W.zret (ty := .boolean) hx hb hr (fm_bI_z _) (fun t ht hW => ⟨_, rfl, by rw [show fm_WD (fm_RB f) 8 = i by omega], ht⟩) (fun q hq => by cases hq) d_MO_areRecipesRight_95
  · have c_11 : ¬ (fm_WD (fm_RB f) 8 ≤ i) := fun z => c0 ((nI_leI (a := fm_WD (fm_RB f) 8) (b := i) (by omega) (by omega)).mpr z)
    have hin := fm_pin hL (by decide : 8 < 10) (Nat.lt_of_not_le c_11)
    refine lv_iload_n hx hb d_MO_areRecipesRight_14 rfl (lv_at hl 1 rfl) ?_
    refine lv_if_eq (tgt := 37) hx hb d_MO_areRecipesRight_15 (by decide) (fun c0 => ?_) (fun c0 => ?_)
    · have c_15 : (fm_all (i) (fm_recipe1 (fm_RB f))) = false := fm_bI_f c0
      refine lv_iconst (v := nI (0)) hx hb d_MO_areRecipesRight_37 (by decide) ?_
      refine fm_tw (z := (fm_bI (fm_all i (fm_recipe1 (fm_RB f)) && (fm_th (fm_RB f) (fm_AT (fm_RB f) 8 i 3) && fm_all 0 (fm_rec (fm_RB f) i))))) (by first | exact fm_cF1 c_15 | exact fm_cT c_15 (by rw [c_30]; rfl) | exact fm_cF2 (by rw [c_30]; rfl)) ?_
      refine lv_istore_n (lv' := [(1, .int (fm_bI (fm_all i (fm_recipe1 (fm_RB f)) && (fm_th (fm_RB f) (fm_AT (fm_RB f) 8 i 3) && fm_all 0 (fm_rec (fm_RB f) i))))), (0, .ref fa), (2, .int (nI (i)))]) hx hb d_MO_areRecipesRight_38 rfl hl (by decide) rfl (fun ls hl => ?_)
      refine lv_iconst (v := nI (0)) hx hb d_MO_areRecipesRight_39 (by decide) ?_
      refine lv_istore_n (lv' := [(3, .int (nI (0))), (1, .int (fm_bI (fm_all i (fm_recipe1 (fm_RB f)) && (fm_th (fm_RB f) (fm_AT (fm_RB f) 8 i 3) && fm_all 0 (fm_rec (fm_RB f) i))))), (0, .ref fa), (2, .int (nI (i)))]) hx hb d_MO_areRecipesRight_40 rfl hl (by decide) rfl (fun ls hl => ?_)
      refine fm_loop1 (LV := fun (b : Nat) => [(0, .ref fa), (1, .int (fm_bI (fm_all i (fm_recipe1 (fm_RB f)) && (fm_th (fm_RB f) (fm_AT (fm_RB f) 8 i 3) && fm_all b (fm_rec (fm_RB f) i))))), (2, .int (nI (i))), (3, .int (nI (b)))]) (I := fun (b : Nat) => b ≤ 3) (μ := fun (b : Nat) => 3 - b) ?_ 0 (by decide) ls (lv_sub hl [2, 1, 3, 0] rfl)
      intro b hI_41 ih_41 ls hl
      have hl : lv_has ls 4 [(0, .ref fa), (1, .int (fm_bI (fm_all i (fm_recipe1 (fm_RB f)) && (fm_th (fm_RB f) (fm_AT (fm_RB f) 8 i 3) && fm_all b (fm_rec (fm_RB f) i))))), (2, .int (nI (i))), (3, .int (nI (b)))] := hl
      refine lv_iload_n hx hb d_MO_areRecipesRight_41 rfl (lv_at hl 3 rfl) ?_
      refine lv_iconst (v := nI (3)) hx hb d_MO_areRecipesRight_42 (by decide) ?_
      refine lv_icmp_ge (tgt := 88) hx hb d_MO_areRecipesRight_43 (by decide) (fun c0 => ?_) (fun c0 => ?_)
      · have c_43 : 3 ≤ b := (nI_leI (a := 3) (b := b) (by omega) (by omega)).mp c0
        obtain rfl : b = 3 := by omega
        have hl : lv_has ls 4 [(0, .ref fa), (1, .int (fm_bI (fm_all i (fm_recipe1 (fm_RB f)) && (fm_th (fm_RB f) (fm_AT (fm_RB f) 8 i 3) && fm_all 3 (fm_rec (fm_RB f) i))))), (2, .int (nI (i)))] := lv_sub hl [0, 1, 2] rfl
        rw [show ((fm_bI (fm_all i (fm_recipe1 (fm_RB f)) && (fm_th (fm_RB f) (fm_AT (fm_RB f) 8 i 3) && fm_all 3 (fm_rec (fm_RB f) i)))) : Int32) = (fm_bI (fm_all (i + 1) (fm_recipe1 (fm_RB f)))) from rfl] at hl
        refine lv_iinc (v := nI (i + 1)) (lv' := [(2, .int (nI (i + 1))), (0, .ref fa), (1, .int (fm_bI (fm_all (i + 1) (fm_recipe1 (fm_RB f)))))]) hx hb d_MO_areRecipesRight_88 hl (k := 2) rfl (nI_1 _) (by decide) rfl (fun ls hl => ?_)
        refine lv_goto (tgt := 4) hx hb d_MO_areRecipesRight_91 (by decide) ?_
        exact ih_4 (i + 1) ls (by omega) (by omega) (lv_sub hl [1, 2, 0] rfl)
      · have c_43 : ¬ (3 ≤ b) := fun z => c0 ((nI_leI (a := 3) (b := b) (by omega) (by omega)).mpr z)
        refine lv_iload_n hx hb d_MO_areRecipesRight_46 rfl (lv_at hl 1 rfl) ?_
        refine lv_if_eq (tgt := 80) hx hb d_MO_areRecipesRight_47 (by decide) (fun c0 => ?_) (fun c0 => ?_)
        · have c_47 : (fm_all i (fm_recipe1 (fm_RB f)) && (fm_th (fm_RB f) (fm_AT (fm_RB f) 8 i 3) && fm_all b (fm_rec (fm_RB f) i))) = false := fm_bI_f c0
          refine lv_iconst (v := nI (0)) hx hb d_MO_areRecipesRight_80 (by decide) ?_
          refine fm_tw (z := (fm_bI (fm_all i (fm_recipe1 (fm_RB f)) && (fm_th (fm_RB f) (fm_AT (fm_RB f) 8 i 3) && fm_all (b + 1) (fm_rec (fm_RB f) i))))) (by first | exact fm_iF1 c_47 | exact fm_iT c_47 (by rw [fm_rec, decide_eq_true c_58]; rfl) | exact fm_iT c_47 (by rw [fm_rec, c_73, Bool.or_true]) | exact fm_iF2 (by rw [fm_rec, decide_eq_false c_58, c_73]; rfl)) ?_
          refine lv_istore_n (lv' := [(1, .int (fm_bI (fm_all i (fm_recipe1 (fm_RB f)) && (fm_th (fm_RB f) (fm_AT (fm_RB f) 8 i 3) && fm_all (b + 1) (fm_rec (fm_RB f) i))))), (0, .ref fa), (2, .int (nI (i))), (3, .int (nI (b)))]) hx hb d_MO_areRecipesRight_81 rfl hl (by decide) rfl (fun ls hl => ?_)
          refine lv_iinc (v := nI (b + 1)) (lv' := [(3, .int (nI (b + 1))), (1, .int (fm_bI (fm_all i (fm_recipe1 (fm_RB f)) && (fm_th (fm_RB f) (fm_AT (fm_RB f) 8 i 3) && fm_all (b + 1) (fm_rec (fm_RB f) i))))), (0, .ref fa), (2, .int (nI (i)))]) hx hb d_MO_areRecipesRight_82 hl (k := 3) rfl (nI_1 _) (by decide) rfl (fun ls hl => ?_)
          refine lv_goto (tgt := 41) hx hb d_MO_areRecipesRight_85 (by decide) ?_
          exact ih_41 (b + 1) ls (by omega) (by omega) (lv_sub hl [2, 1, 3, 0] rfl)
        · have c_47 : (fm_all i (fm_recipe1 (fm_RB f)) && (fm_th (fm_RB f) (fm_AT (fm_RB f) 8 i 3) && fm_all b (fm_rec (fm_RB f) i))) = true := fm_bI_t c0
          refine lv_aload_n hx hb d_MO_areRecipesRight_50 rfl (lv_at hl 0 rfl) ?_
          refine lv_bipush (v := nI (8)) hx hb d_MO_areRecipesRight_51 (by decide) ?_
          refine lv_iload_n hx hb d_MO_areRecipesRight_53 rfl (lv_at hl 2 rfl) ?_
          refine lv_iload_n hx hb d_MO_areRecipesRight_54 rfl (lv_at hl 3 rfl) ?_
          refine fm_cs S (c_MO_at l dC dI fa cB f 8 i b (by omega) (hq) (by omega) (by omega)) rfl rfl k_MO_at q_3_184 ⟨Nat.le_of_ble_eq_true rfl, Nat.le_of_ble_eq_true rfl⟩ (hP.sub [0] rfl) (hK.sub [0] rfl) rfl hl.1 rfl (Nat.le_of_ble_eq_true rfl) ⟨Nat.zero_le _, Nat.zero_le _⟩ d_MO_areRecipesRight_55 ?_
          have f0_55 := fm_AT_lt (fm_RB_lt f) 8 i b
          refine lv_if_eq (tgt := 76) hx hb d_MO_areRecipesRight_58 (by decide) (fun c0 => ?_) (fun c0 => ?_)
          · have c_58 : fm_AT (fm_RB f) 8 i b = 0 := (nI_eq (a := fm_AT (fm_RB f) 8 i b) (b := 0) (by omega) (by omega)).mp c0
            refine lv_iconst (v := nI (1)) hx hb d_MO_areRecipesRight_76 (by decide) ?_
            refine lv_goto (tgt := 81) hx hb d_MO_areRecipesRight_77 (by decide) ?_
            refine fm_tw (z := (fm_bI (fm_all i (fm_recipe1 (fm_RB f)) && (fm_th (fm_RB f) (fm_AT (fm_RB f) 8 i 3) && fm_all (b + 1) (fm_rec (fm_RB f) i))))) (by first | exact fm_iF1 c_47 | exact fm_iT c_47 (by rw [fm_rec, decide_eq_true c_58]; rfl) | exact fm_iT c_47 (by rw [fm_rec, c_73, Bool.or_true]) | exact fm_iF2 (by rw [fm_rec, decide_eq_false c_58, c_73]; rfl)) ?_
            refine lv_istore_n (lv' := [(1, .int (fm_bI (fm_all i (fm_recipe1 (fm_RB f)) && (fm_th (fm_RB f) (fm_AT (fm_RB f) 8 i 3) && fm_all (b + 1) (fm_rec (fm_RB f) i))))), (0, .ref fa), (2, .int (nI (i))), (3, .int (nI (b)))]) hx hb d_MO_areRecipesRight_81 rfl hl (by decide) rfl (fun ls hl => ?_)
            refine lv_iinc (v := nI (b + 1)) (lv' := [(3, .int (nI (b + 1))), (1, .int (fm_bI (fm_all i (fm_recipe1 (fm_RB f)) && (fm_th (fm_RB f) (fm_AT (fm_RB f) 8 i 3) && fm_all (b + 1) (fm_rec (fm_RB f) i))))), (0, .ref fa), (2, .int (nI (i)))]) hx hb d_MO_areRecipesRight_82 hl (k := 3) rfl (nI_1 _) (by decide) rfl (fun ls hl => ?_)
            refine lv_goto (tgt := 41) hx hb d_MO_areRecipesRight_85 (by decide) ?_
            exact ih_41 (b + 1) ls (by omega) (by omega) (lv_sub hl [2, 1, 3, 0] rfl)
          · have c_58 : ¬ (fm_AT (fm_RB f) 8 i b = 0) := fun z => c0 ((nI_eq (a := fm_AT (fm_RB f) 8 i b) (b := 0) (by omega) (by omega)).mpr z)
            refine lv_aload_n hx hb d_MO_areRecipesRight_61 rfl (lv_at hl 0 rfl) ?_
            refine lv_aload_n hx hb d_MO_areRecipesRight_62 rfl (lv_at hl 0 rfl) ?_
            refine lv_bipush (v := nI (8)) hx hb d_MO_areRecipesRight_63 (by decide) ?_
            refine lv_iload_n hx hb d_MO_areRecipesRight_65 rfl (lv_at hl 2 rfl) ?_
            refine lv_iload_n hx hb d_MO_areRecipesRight_66 rfl (lv_at hl 3 rfl) ?_
            refine fm_cs S (c_MO_at l dC dI fa cB f 8 i b (by omega) (hq) (by omega) (by omega)) rfl rfl k_MO_at q_3_184 ⟨Nat.le_of_ble_eq_true rfl, Nat.le_of_ble_eq_true rfl⟩ (hP.sub [0] rfl) (hK.sub [0] rfl) rfl hl.1 rfl (Nat.le_of_ble_eq_true rfl) ⟨Nat.zero_le _, Nat.zero_le _⟩ d_MO_areRecipesRight_67 ?_
            have f0_67 := fm_AT_lt (fm_RB_lt f) 8 i b
            refine fm_cs S (c_MO_isThereN l dC dI fa cB f (fm_AT (fm_RB f) 8 i b) (by omega) (hL)) rfl rfl k_MO_isThere q_3_194 ⟨Nat.le_of_ble_eq_true rfl, Nat.le_of_ble_eq_true rfl⟩ (hP.sub [0] rfl) (hK.sub [0] rfl) rfl hl.1 rfl (Nat.le_of_ble_eq_true rfl) ⟨Nat.zero_le _, Nat.zero_le _⟩ d_MO_areRecipesRight_70 ?_
            refine lv_if_eq (tgt := 80) hx hb d_MO_areRecipesRight_73 (by decide) (fun c0 => ?_) (fun c0 => ?_)
            · have c_73 : (fm_th (fm_RB f) (fm_AT (fm_RB f) 8 i b)) = false := fm_bI_f c0
              refine lv_iconst (v := nI (0)) hx hb d_MO_areRecipesRight_80 (by decide) ?_
              refine fm_tw (z := (fm_bI (fm_all i (fm_recipe1 (fm_RB f)) && (fm_th (fm_RB f) (fm_AT (fm_RB f) 8 i 3) && fm_all (b + 1) (fm_rec (fm_RB f) i))))) (by first | exact fm_iF1 c_47 | exact fm_iT c_47 (by rw [fm_rec, decide_eq_true c_58]; rfl) | exact fm_iT c_47 (by rw [fm_rec, c_73, Bool.or_true]) | exact fm_iF2 (by rw [fm_rec, decide_eq_false c_58, c_73]; rfl)) ?_
              refine lv_istore_n (lv' := [(1, .int (fm_bI (fm_all i (fm_recipe1 (fm_RB f)) && (fm_th (fm_RB f) (fm_AT (fm_RB f) 8 i 3) && fm_all (b + 1) (fm_rec (fm_RB f) i))))), (0, .ref fa), (2, .int (nI (i))), (3, .int (nI (b)))]) hx hb d_MO_areRecipesRight_81 rfl hl (by decide) rfl (fun ls hl => ?_)
              refine lv_iinc (v := nI (b + 1)) (lv' := [(3, .int (nI (b + 1))), (1, .int (fm_bI (fm_all i (fm_recipe1 (fm_RB f)) && (fm_th (fm_RB f) (fm_AT (fm_RB f) 8 i 3) && fm_all (b + 1) (fm_rec (fm_RB f) i))))), (0, .ref fa), (2, .int (nI (i)))]) hx hb d_MO_areRecipesRight_82 hl (k := 3) rfl (nI_1 _) (by decide) rfl (fun ls hl => ?_)
              refine lv_goto (tgt := 41) hx hb d_MO_areRecipesRight_85 (by decide) ?_
              exact ih_41 (b + 1) ls (by omega) (by omega) (lv_sub hl [2, 1, 3, 0] rfl)
            · have c_73 : (fm_th (fm_RB f) (fm_AT (fm_RB f) 8 i b)) = true := fm_bI_t c0
              refine lv_iconst (v := nI (1)) hx hb d_MO_areRecipesRight_76 (by decide) ?_
              refine lv_goto (tgt := 81) hx hb d_MO_areRecipesRight_77 (by decide) ?_
              refine fm_tw (z := (fm_bI (fm_all i (fm_recipe1 (fm_RB f)) && (fm_th (fm_RB f) (fm_AT (fm_RB f) 8 i 3) && fm_all (b + 1) (fm_rec (fm_RB f) i))))) (by first | exact fm_iF1 c_47 | exact fm_iT c_47 (by rw [fm_rec, decide_eq_true c_58]; rfl) | exact fm_iT c_47 (by rw [fm_rec, c_73, Bool.or_true]) | exact fm_iF2 (by rw [fm_rec, decide_eq_false c_58, c_73]; rfl)) ?_
              refine lv_istore_n (lv' := [(1, .int (fm_bI (fm_all i (fm_recipe1 (fm_RB f)) && (fm_th (fm_RB f) (fm_AT (fm_RB f) 8 i 3) && fm_all (b + 1) (fm_rec (fm_RB f) i))))), (0, .ref fa), (2, .int (nI (i))), (3, .int (nI (b)))]) hx hb d_MO_areRecipesRight_81 rfl hl (by decide) rfl (fun ls hl => ?_)
              refine lv_iinc (v := nI (b + 1)) (lv' := [(3, .int (nI (b + 1))), (1, .int (fm_bI (fm_all i (fm_recipe1 (fm_RB f)) && (fm_th (fm_RB f) (fm_AT (fm_RB f) 8 i 3) && fm_all (b + 1) (fm_rec (fm_RB f) i))))), (0, .ref fa), (2, .int (nI (i)))]) hx hb d_MO_areRecipesRight_82 hl (k := 3) rfl (nI_1 _) (by decide) rfl (fun ls hl => ?_)
              refine lv_goto (tgt := 41) hx hb d_MO_areRecipesRight_85 (by decide) ?_
              exact ih_41 (b + 1) ls (by omega) (by omega) (lv_sub hl [2, 1, 3, 0] rfl)
    · have c_15 : (fm_all (i) (fm_recipe1 (fm_RB f))) = true := fm_bI_t c0
      refine lv_aload_n hx hb d_MO_areRecipesRight_18 rfl (lv_at hl 0 rfl) ?_
      refine lv_aload_n hx hb d_MO_areRecipesRight_19 rfl (lv_at hl 0 rfl) ?_
      refine lv_bipush (v := nI (8)) hx hb d_MO_areRecipesRight_20 (by decide) ?_
      refine lv_iload_n hx hb d_MO_areRecipesRight_22 rfl (lv_at hl 2 rfl) ?_
      refine lv_iconst (v := nI (3)) hx hb d_MO_areRecipesRight_23 (by decide) ?_
      refine fm_cs S (c_MO_at l dC dI fa cB f 8 i 3 (by omega) (hq) (by omega) (by omega)) rfl rfl k_MO_at q_3_184 ⟨Nat.le_of_ble_eq_true rfl, Nat.le_of_ble_eq_true rfl⟩ (hP.sub [0] rfl) (hK.sub [0] rfl) rfl hl.1 rfl (Nat.le_of_ble_eq_true rfl) ⟨Nat.zero_le _, Nat.zero_le _⟩ d_MO_areRecipesRight_24 ?_
      have f0_24 := fm_AT_lt (fm_RB_lt f) 8 i 3
      refine fm_cs S (c_MO_isThereN l dC dI fa cB f (fm_AT (fm_RB f) 8 i 3) (by omega) (hL)) rfl rfl k_MO_isThere q_3_194 ⟨Nat.le_of_ble_eq_true rfl, Nat.le_of_ble_eq_true rfl⟩ (hP.sub [0] rfl) (hK.sub [0] rfl) rfl hl.1 rfl (Nat.le_of_ble_eq_true rfl) ⟨Nat.zero_le _, Nat.zero_le _⟩ d_MO_areRecipesRight_27 ?_
      refine lv_if_eq (tgt := 37) hx hb d_MO_areRecipesRight_30 (by decide) (fun c0 => ?_) (fun c0 => ?_)
      · have c_30 : (fm_th (fm_RB f) (fm_AT (fm_RB f) 8 i 3)) = false := fm_bI_f c0
        refine lv_iconst (v := nI (0)) hx hb d_MO_areRecipesRight_37 (by decide) ?_
        refine fm_tw (z := (fm_bI (fm_all i (fm_recipe1 (fm_RB f)) && (fm_th (fm_RB f) (fm_AT (fm_RB f) 8 i 3) && fm_all 0 (fm_rec (fm_RB f) i))))) (by first | exact fm_cF1 c_15 | exact fm_cT c_15 (by rw [c_30]; rfl) | exact fm_cF2 (by rw [c_30]; rfl)) ?_
        refine lv_istore_n (lv' := [(1, .int (fm_bI (fm_all i (fm_recipe1 (fm_RB f)) && (fm_th (fm_RB f) (fm_AT (fm_RB f) 8 i 3) && fm_all 0 (fm_rec (fm_RB f) i))))), (0, .ref fa), (2, .int (nI (i)))]) hx hb d_MO_areRecipesRight_38 rfl hl (by decide) rfl (fun ls hl => ?_)
        refine lv_iconst (v := nI (0)) hx hb d_MO_areRecipesRight_39 (by decide) ?_
        refine lv_istore_n (lv' := [(3, .int (nI (0))), (1, .int (fm_bI (fm_all i (fm_recipe1 (fm_RB f)) && (fm_th (fm_RB f) (fm_AT (fm_RB f) 8 i 3) && fm_all 0 (fm_rec (fm_RB f) i))))), (0, .ref fa), (2, .int (nI (i)))]) hx hb d_MO_areRecipesRight_40 rfl hl (by decide) rfl (fun ls hl => ?_)
        refine fm_loop1 (LV := fun (b : Nat) => [(0, .ref fa), (1, .int (fm_bI (fm_all i (fm_recipe1 (fm_RB f)) && (fm_th (fm_RB f) (fm_AT (fm_RB f) 8 i 3) && fm_all b (fm_rec (fm_RB f) i))))), (2, .int (nI (i))), (3, .int (nI (b)))]) (I := fun (b : Nat) => b ≤ 3) (μ := fun (b : Nat) => 3 - b) ?_ 0 (by decide) ls (lv_sub hl [2, 1, 3, 0] rfl)
        intro b hI_41 ih_41 ls hl
        have hl : lv_has ls 4 [(0, .ref fa), (1, .int (fm_bI (fm_all i (fm_recipe1 (fm_RB f)) && (fm_th (fm_RB f) (fm_AT (fm_RB f) 8 i 3) && fm_all b (fm_rec (fm_RB f) i))))), (2, .int (nI (i))), (3, .int (nI (b)))] := hl
        refine lv_iload_n hx hb d_MO_areRecipesRight_41 rfl (lv_at hl 3 rfl) ?_
        refine lv_iconst (v := nI (3)) hx hb d_MO_areRecipesRight_42 (by decide) ?_
        refine lv_icmp_ge (tgt := 88) hx hb d_MO_areRecipesRight_43 (by decide) (fun c0 => ?_) (fun c0 => ?_)
        · have c_43 : 3 ≤ b := (nI_leI (a := 3) (b := b) (by omega) (by omega)).mp c0
          obtain rfl : b = 3 := by omega
          have hl : lv_has ls 4 [(0, .ref fa), (1, .int (fm_bI (fm_all i (fm_recipe1 (fm_RB f)) && (fm_th (fm_RB f) (fm_AT (fm_RB f) 8 i 3) && fm_all 3 (fm_rec (fm_RB f) i))))), (2, .int (nI (i)))] := lv_sub hl [0, 1, 2] rfl
          rw [show ((fm_bI (fm_all i (fm_recipe1 (fm_RB f)) && (fm_th (fm_RB f) (fm_AT (fm_RB f) 8 i 3) && fm_all 3 (fm_rec (fm_RB f) i)))) : Int32) = (fm_bI (fm_all (i + 1) (fm_recipe1 (fm_RB f)))) from rfl] at hl
          refine lv_iinc (v := nI (i + 1)) (lv' := [(2, .int (nI (i + 1))), (0, .ref fa), (1, .int (fm_bI (fm_all (i + 1) (fm_recipe1 (fm_RB f)))))]) hx hb d_MO_areRecipesRight_88 hl (k := 2) rfl (nI_1 _) (by decide) rfl (fun ls hl => ?_)
          refine lv_goto (tgt := 4) hx hb d_MO_areRecipesRight_91 (by decide) ?_
          exact ih_4 (i + 1) ls (by omega) (by omega) (lv_sub hl [1, 2, 0] rfl)
        · have c_43 : ¬ (3 ≤ b) := fun z => c0 ((nI_leI (a := 3) (b := b) (by omega) (by omega)).mpr z)
          refine lv_iload_n hx hb d_MO_areRecipesRight_46 rfl (lv_at hl 1 rfl) ?_
          refine lv_if_eq (tgt := 80) hx hb d_MO_areRecipesRight_47 (by decide) (fun c0 => ?_) (fun c0 => ?_)
          · have c_47 : (fm_all i (fm_recipe1 (fm_RB f)) && (fm_th (fm_RB f) (fm_AT (fm_RB f) 8 i 3) && fm_all b (fm_rec (fm_RB f) i))) = false := fm_bI_f c0
            refine lv_iconst (v := nI (0)) hx hb d_MO_areRecipesRight_80 (by decide) ?_
            refine fm_tw (z := (fm_bI (fm_all i (fm_recipe1 (fm_RB f)) && (fm_th (fm_RB f) (fm_AT (fm_RB f) 8 i 3) && fm_all (b + 1) (fm_rec (fm_RB f) i))))) (by first | exact fm_iF1 c_47 | exact fm_iT c_47 (by rw [fm_rec, decide_eq_true c_58]; rfl) | exact fm_iT c_47 (by rw [fm_rec, c_73, Bool.or_true]) | exact fm_iF2 (by rw [fm_rec, decide_eq_false c_58, c_73]; rfl)) ?_
            refine lv_istore_n (lv' := [(1, .int (fm_bI (fm_all i (fm_recipe1 (fm_RB f)) && (fm_th (fm_RB f) (fm_AT (fm_RB f) 8 i 3) && fm_all (b + 1) (fm_rec (fm_RB f) i))))), (0, .ref fa), (2, .int (nI (i))), (3, .int (nI (b)))]) hx hb d_MO_areRecipesRight_81 rfl hl (by decide) rfl (fun ls hl => ?_)
            refine lv_iinc (v := nI (b + 1)) (lv' := [(3, .int (nI (b + 1))), (1, .int (fm_bI (fm_all i (fm_recipe1 (fm_RB f)) && (fm_th (fm_RB f) (fm_AT (fm_RB f) 8 i 3) && fm_all (b + 1) (fm_rec (fm_RB f) i))))), (0, .ref fa), (2, .int (nI (i)))]) hx hb d_MO_areRecipesRight_82 hl (k := 3) rfl (nI_1 _) (by decide) rfl (fun ls hl => ?_)
            refine lv_goto (tgt := 41) hx hb d_MO_areRecipesRight_85 (by decide) ?_
            exact ih_41 (b + 1) ls (by omega) (by omega) (lv_sub hl [2, 1, 3, 0] rfl)
          · have c_47 : (fm_all i (fm_recipe1 (fm_RB f)) && (fm_th (fm_RB f) (fm_AT (fm_RB f) 8 i 3) && fm_all b (fm_rec (fm_RB f) i))) = true := fm_bI_t c0
            refine lv_aload_n hx hb d_MO_areRecipesRight_50 rfl (lv_at hl 0 rfl) ?_
            refine lv_bipush (v := nI (8)) hx hb d_MO_areRecipesRight_51 (by decide) ?_
            refine lv_iload_n hx hb d_MO_areRecipesRight_53 rfl (lv_at hl 2 rfl) ?_
            refine lv_iload_n hx hb d_MO_areRecipesRight_54 rfl (lv_at hl 3 rfl) ?_
            refine fm_cs S (c_MO_at l dC dI fa cB f 8 i b (by omega) (hq) (by omega) (by omega)) rfl rfl k_MO_at q_3_184 ⟨Nat.le_of_ble_eq_true rfl, Nat.le_of_ble_eq_true rfl⟩ (hP.sub [0] rfl) (hK.sub [0] rfl) rfl hl.1 rfl (Nat.le_of_ble_eq_true rfl) ⟨Nat.zero_le _, Nat.zero_le _⟩ d_MO_areRecipesRight_55 ?_
            have f0_55 := fm_AT_lt (fm_RB_lt f) 8 i b
            refine lv_if_eq (tgt := 76) hx hb d_MO_areRecipesRight_58 (by decide) (fun c0 => ?_) (fun c0 => ?_)
            · have c_58 : fm_AT (fm_RB f) 8 i b = 0 := (nI_eq (a := fm_AT (fm_RB f) 8 i b) (b := 0) (by omega) (by omega)).mp c0
              refine lv_iconst (v := nI (1)) hx hb d_MO_areRecipesRight_76 (by decide) ?_
              refine lv_goto (tgt := 81) hx hb d_MO_areRecipesRight_77 (by decide) ?_
              refine fm_tw (z := (fm_bI (fm_all i (fm_recipe1 (fm_RB f)) && (fm_th (fm_RB f) (fm_AT (fm_RB f) 8 i 3) && fm_all (b + 1) (fm_rec (fm_RB f) i))))) (by first | exact fm_iF1 c_47 | exact fm_iT c_47 (by rw [fm_rec, decide_eq_true c_58]; rfl) | exact fm_iT c_47 (by rw [fm_rec, c_73, Bool.or_true]) | exact fm_iF2 (by rw [fm_rec, decide_eq_false c_58, c_73]; rfl)) ?_
              refine lv_istore_n (lv' := [(1, .int (fm_bI (fm_all i (fm_recipe1 (fm_RB f)) && (fm_th (fm_RB f) (fm_AT (fm_RB f) 8 i 3) && fm_all (b + 1) (fm_rec (fm_RB f) i))))), (0, .ref fa), (2, .int (nI (i))), (3, .int (nI (b)))]) hx hb d_MO_areRecipesRight_81 rfl hl (by decide) rfl (fun ls hl => ?_)
              refine lv_iinc (v := nI (b + 1)) (lv' := [(3, .int (nI (b + 1))), (1, .int (fm_bI (fm_all i (fm_recipe1 (fm_RB f)) && (fm_th (fm_RB f) (fm_AT (fm_RB f) 8 i 3) && fm_all (b + 1) (fm_rec (fm_RB f) i))))), (0, .ref fa), (2, .int (nI (i)))]) hx hb d_MO_areRecipesRight_82 hl (k := 3) rfl (nI_1 _) (by decide) rfl (fun ls hl => ?_)
              refine lv_goto (tgt := 41) hx hb d_MO_areRecipesRight_85 (by decide) ?_
              exact ih_41 (b + 1) ls (by omega) (by omega) (lv_sub hl [2, 1, 3, 0] rfl)
            · have c_58 : ¬ (fm_AT (fm_RB f) 8 i b = 0) := fun z => c0 ((nI_eq (a := fm_AT (fm_RB f) 8 i b) (b := 0) (by omega) (by omega)).mpr z)
              refine lv_aload_n hx hb d_MO_areRecipesRight_61 rfl (lv_at hl 0 rfl) ?_
              refine lv_aload_n hx hb d_MO_areRecipesRight_62 rfl (lv_at hl 0 rfl) ?_
              refine lv_bipush (v := nI (8)) hx hb d_MO_areRecipesRight_63 (by decide) ?_
              refine lv_iload_n hx hb d_MO_areRecipesRight_65 rfl (lv_at hl 2 rfl) ?_
              refine lv_iload_n hx hb d_MO_areRecipesRight_66 rfl (lv_at hl 3 rfl) ?_
              refine fm_cs S (c_MO_at l dC dI fa cB f 8 i b (by omega) (hq) (by omega) (by omega)) rfl rfl k_MO_at q_3_184 ⟨Nat.le_of_ble_eq_true rfl, Nat.le_of_ble_eq_true rfl⟩ (hP.sub [0] rfl) (hK.sub [0] rfl) rfl hl.1 rfl (Nat.le_of_ble_eq_true rfl) ⟨Nat.zero_le _, Nat.zero_le _⟩ d_MO_areRecipesRight_67 ?_
              have f0_67 := fm_AT_lt (fm_RB_lt f) 8 i b
              refine fm_cs S (c_MO_isThereN l dC dI fa cB f (fm_AT (fm_RB f) 8 i b) (by omega) (hL)) rfl rfl k_MO_isThere q_3_194 ⟨Nat.le_of_ble_eq_true rfl, Nat.le_of_ble_eq_true rfl⟩ (hP.sub [0] rfl) (hK.sub [0] rfl) rfl hl.1 rfl (Nat.le_of_ble_eq_true rfl) ⟨Nat.zero_le _, Nat.zero_le _⟩ d_MO_areRecipesRight_70 ?_
              refine lv_if_eq (tgt := 80) hx hb d_MO_areRecipesRight_73 (by decide) (fun c0 => ?_) (fun c0 => ?_)
              · have c_73 : (fm_th (fm_RB f) (fm_AT (fm_RB f) 8 i b)) = false := fm_bI_f c0
                refine lv_iconst (v := nI (0)) hx hb d_MO_areRecipesRight_80 (by decide) ?_
                refine fm_tw (z := (fm_bI (fm_all i (fm_recipe1 (fm_RB f)) && (fm_th (fm_RB f) (fm_AT (fm_RB f) 8 i 3) && fm_all (b + 1) (fm_rec (fm_RB f) i))))) (by first | exact fm_iF1 c_47 | exact fm_iT c_47 (by rw [fm_rec, decide_eq_true c_58]; rfl) | exact fm_iT c_47 (by rw [fm_rec, c_73, Bool.or_true]) | exact fm_iF2 (by rw [fm_rec, decide_eq_false c_58, c_73]; rfl)) ?_
                refine lv_istore_n (lv' := [(1, .int (fm_bI (fm_all i (fm_recipe1 (fm_RB f)) && (fm_th (fm_RB f) (fm_AT (fm_RB f) 8 i 3) && fm_all (b + 1) (fm_rec (fm_RB f) i))))), (0, .ref fa), (2, .int (nI (i))), (3, .int (nI (b)))]) hx hb d_MO_areRecipesRight_81 rfl hl (by decide) rfl (fun ls hl => ?_)
                refine lv_iinc (v := nI (b + 1)) (lv' := [(3, .int (nI (b + 1))), (1, .int (fm_bI (fm_all i (fm_recipe1 (fm_RB f)) && (fm_th (fm_RB f) (fm_AT (fm_RB f) 8 i 3) && fm_all (b + 1) (fm_rec (fm_RB f) i))))), (0, .ref fa), (2, .int (nI (i)))]) hx hb d_MO_areRecipesRight_82 hl (k := 3) rfl (nI_1 _) (by decide) rfl (fun ls hl => ?_)
                refine lv_goto (tgt := 41) hx hb d_MO_areRecipesRight_85 (by decide) ?_
                exact ih_41 (b + 1) ls (by omega) (by omega) (lv_sub hl [2, 1, 3, 0] rfl)
              · have c_73 : (fm_th (fm_RB f) (fm_AT (fm_RB f) 8 i b)) = true := fm_bI_t c0
                refine lv_iconst (v := nI (1)) hx hb d_MO_areRecipesRight_76 (by decide) ?_
                refine lv_goto (tgt := 81) hx hb d_MO_areRecipesRight_77 (by decide) ?_
                refine fm_tw (z := (fm_bI (fm_all i (fm_recipe1 (fm_RB f)) && (fm_th (fm_RB f) (fm_AT (fm_RB f) 8 i 3) && fm_all (b + 1) (fm_rec (fm_RB f) i))))) (by first | exact fm_iF1 c_47 | exact fm_iT c_47 (by rw [fm_rec, decide_eq_true c_58]; rfl) | exact fm_iT c_47 (by rw [fm_rec, c_73, Bool.or_true]) | exact fm_iF2 (by rw [fm_rec, decide_eq_false c_58, c_73]; rfl)) ?_
                refine lv_istore_n (lv' := [(1, .int (fm_bI (fm_all i (fm_recipe1 (fm_RB f)) && (fm_th (fm_RB f) (fm_AT (fm_RB f) 8 i 3) && fm_all (b + 1) (fm_rec (fm_RB f) i))))), (0, .ref fa), (2, .int (nI (i))), (3, .int (nI (b)))]) hx hb d_MO_areRecipesRight_81 rfl hl (by decide) rfl (fun ls hl => ?_)
                refine lv_iinc (v := nI (b + 1)) (lv' := [(3, .int (nI (b + 1))), (1, .int (fm_bI (fm_all i (fm_recipe1 (fm_RB f)) && (fm_th (fm_RB f) (fm_AT (fm_RB f) 8 i 3) && fm_all (b + 1) (fm_rec (fm_RB f) i))))), (0, .ref fa), (2, .int (nI (i)))]) hx hb d_MO_areRecipesRight_82 hl (k := 3) rfl (nI_1 _) (by decide) rfl (fun ls hl => ?_)
                refine lv_goto (tgt := 41) hx hb d_MO_areRecipesRight_85 (by decide) ?_
                exact ih_41 (b + 1) ls (by omega) (by omega) (lv_sub hl [2, 1, 3, 0] rfl)
      · have c_30 : (fm_th (fm_RB f) (fm_AT (fm_RB f) 8 i 3)) = true := fm_bI_t c0
        refine lv_iconst (v := nI (1)) hx hb d_MO_areRecipesRight_33 (by decide) ?_
        refine lv_goto (tgt := 38) hx hb d_MO_areRecipesRight_34 (by decide) ?_
        refine fm_tw (z := (fm_bI (fm_all i (fm_recipe1 (fm_RB f)) && (fm_th (fm_RB f) (fm_AT (fm_RB f) 8 i 3) && fm_all 0 (fm_rec (fm_RB f) i))))) (by first | exact fm_cF1 c_15 | exact fm_cT c_15 (by rw [c_30]; rfl) | exact fm_cF2 (by rw [c_30]; rfl)) ?_
        refine lv_istore_n (lv' := [(1, .int (fm_bI (fm_all i (fm_recipe1 (fm_RB f)) && (fm_th (fm_RB f) (fm_AT (fm_RB f) 8 i 3) && fm_all 0 (fm_rec (fm_RB f) i))))), (0, .ref fa), (2, .int (nI (i)))]) hx hb d_MO_areRecipesRight_38 rfl hl (by decide) rfl (fun ls hl => ?_)
        refine lv_iconst (v := nI (0)) hx hb d_MO_areRecipesRight_39 (by decide) ?_
        refine lv_istore_n (lv' := [(3, .int (nI (0))), (1, .int (fm_bI (fm_all i (fm_recipe1 (fm_RB f)) && (fm_th (fm_RB f) (fm_AT (fm_RB f) 8 i 3) && fm_all 0 (fm_rec (fm_RB f) i))))), (0, .ref fa), (2, .int (nI (i)))]) hx hb d_MO_areRecipesRight_40 rfl hl (by decide) rfl (fun ls hl => ?_)
        refine fm_loop1 (LV := fun (b : Nat) => [(0, .ref fa), (1, .int (fm_bI (fm_all i (fm_recipe1 (fm_RB f)) && (fm_th (fm_RB f) (fm_AT (fm_RB f) 8 i 3) && fm_all b (fm_rec (fm_RB f) i))))), (2, .int (nI (i))), (3, .int (nI (b)))]) (I := fun (b : Nat) => b ≤ 3) (μ := fun (b : Nat) => 3 - b) ?_ 0 (by decide) ls (lv_sub hl [2, 1, 3, 0] rfl)
        intro b hI_41 ih_41 ls hl
        have hl : lv_has ls 4 [(0, .ref fa), (1, .int (fm_bI (fm_all i (fm_recipe1 (fm_RB f)) && (fm_th (fm_RB f) (fm_AT (fm_RB f) 8 i 3) && fm_all b (fm_rec (fm_RB f) i))))), (2, .int (nI (i))), (3, .int (nI (b)))] := hl
        refine lv_iload_n hx hb d_MO_areRecipesRight_41 rfl (lv_at hl 3 rfl) ?_
        refine lv_iconst (v := nI (3)) hx hb d_MO_areRecipesRight_42 (by decide) ?_
        refine lv_icmp_ge (tgt := 88) hx hb d_MO_areRecipesRight_43 (by decide) (fun c0 => ?_) (fun c0 => ?_)
        · have c_43 : 3 ≤ b := (nI_leI (a := 3) (b := b) (by omega) (by omega)).mp c0
          obtain rfl : b = 3 := by omega
          have hl : lv_has ls 4 [(0, .ref fa), (1, .int (fm_bI (fm_all i (fm_recipe1 (fm_RB f)) && (fm_th (fm_RB f) (fm_AT (fm_RB f) 8 i 3) && fm_all 3 (fm_rec (fm_RB f) i))))), (2, .int (nI (i)))] := lv_sub hl [0, 1, 2] rfl
          rw [show ((fm_bI (fm_all i (fm_recipe1 (fm_RB f)) && (fm_th (fm_RB f) (fm_AT (fm_RB f) 8 i 3) && fm_all 3 (fm_rec (fm_RB f) i)))) : Int32) = (fm_bI (fm_all (i + 1) (fm_recipe1 (fm_RB f)))) from rfl] at hl
          refine lv_iinc (v := nI (i + 1)) (lv' := [(2, .int (nI (i + 1))), (0, .ref fa), (1, .int (fm_bI (fm_all (i + 1) (fm_recipe1 (fm_RB f)))))]) hx hb d_MO_areRecipesRight_88 hl (k := 2) rfl (nI_1 _) (by decide) rfl (fun ls hl => ?_)
          refine lv_goto (tgt := 4) hx hb d_MO_areRecipesRight_91 (by decide) ?_
          exact ih_4 (i + 1) ls (by omega) (by omega) (lv_sub hl [1, 2, 0] rfl)
        · have c_43 : ¬ (3 ≤ b) := fun z => c0 ((nI_leI (a := 3) (b := b) (by omega) (by omega)).mpr z)
          refine lv_iload_n hx hb d_MO_areRecipesRight_46 rfl (lv_at hl 1 rfl) ?_
          refine lv_if_eq (tgt := 80) hx hb d_MO_areRecipesRight_47 (by decide) (fun c0 => ?_) (fun c0 => ?_)
          · have c_47 : (fm_all i (fm_recipe1 (fm_RB f)) && (fm_th (fm_RB f) (fm_AT (fm_RB f) 8 i 3) && fm_all b (fm_rec (fm_RB f) i))) = false := fm_bI_f c0
            refine lv_iconst (v := nI (0)) hx hb d_MO_areRecipesRight_80 (by decide) ?_
            refine fm_tw (z := (fm_bI (fm_all i (fm_recipe1 (fm_RB f)) && (fm_th (fm_RB f) (fm_AT (fm_RB f) 8 i 3) && fm_all (b + 1) (fm_rec (fm_RB f) i))))) (by first | exact fm_iF1 c_47 | exact fm_iT c_47 (by rw [fm_rec, decide_eq_true c_58]; rfl) | exact fm_iT c_47 (by rw [fm_rec, c_73, Bool.or_true]) | exact fm_iF2 (by rw [fm_rec, decide_eq_false c_58, c_73]; rfl)) ?_
            refine lv_istore_n (lv' := [(1, .int (fm_bI (fm_all i (fm_recipe1 (fm_RB f)) && (fm_th (fm_RB f) (fm_AT (fm_RB f) 8 i 3) && fm_all (b + 1) (fm_rec (fm_RB f) i))))), (0, .ref fa), (2, .int (nI (i))), (3, .int (nI (b)))]) hx hb d_MO_areRecipesRight_81 rfl hl (by decide) rfl (fun ls hl => ?_)
            refine lv_iinc (v := nI (b + 1)) (lv' := [(3, .int (nI (b + 1))), (1, .int (fm_bI (fm_all i (fm_recipe1 (fm_RB f)) && (fm_th (fm_RB f) (fm_AT (fm_RB f) 8 i 3) && fm_all (b + 1) (fm_rec (fm_RB f) i))))), (0, .ref fa), (2, .int (nI (i)))]) hx hb d_MO_areRecipesRight_82 hl (k := 3) rfl (nI_1 _) (by decide) rfl (fun ls hl => ?_)
            refine lv_goto (tgt := 41) hx hb d_MO_areRecipesRight_85 (by decide) ?_
            exact ih_41 (b + 1) ls (by omega) (by omega) (lv_sub hl [2, 1, 3, 0] rfl)
          · have c_47 : (fm_all i (fm_recipe1 (fm_RB f)) && (fm_th (fm_RB f) (fm_AT (fm_RB f) 8 i 3) && fm_all b (fm_rec (fm_RB f) i))) = true := fm_bI_t c0
            refine lv_aload_n hx hb d_MO_areRecipesRight_50 rfl (lv_at hl 0 rfl) ?_
            refine lv_bipush (v := nI (8)) hx hb d_MO_areRecipesRight_51 (by decide) ?_
            refine lv_iload_n hx hb d_MO_areRecipesRight_53 rfl (lv_at hl 2 rfl) ?_
            refine lv_iload_n hx hb d_MO_areRecipesRight_54 rfl (lv_at hl 3 rfl) ?_
            refine fm_cs S (c_MO_at l dC dI fa cB f 8 i b (by omega) (hq) (by omega) (by omega)) rfl rfl k_MO_at q_3_184 ⟨Nat.le_of_ble_eq_true rfl, Nat.le_of_ble_eq_true rfl⟩ (hP.sub [0] rfl) (hK.sub [0] rfl) rfl hl.1 rfl (Nat.le_of_ble_eq_true rfl) ⟨Nat.zero_le _, Nat.zero_le _⟩ d_MO_areRecipesRight_55 ?_
            have f0_55 := fm_AT_lt (fm_RB_lt f) 8 i b
            refine lv_if_eq (tgt := 76) hx hb d_MO_areRecipesRight_58 (by decide) (fun c0 => ?_) (fun c0 => ?_)
            · have c_58 : fm_AT (fm_RB f) 8 i b = 0 := (nI_eq (a := fm_AT (fm_RB f) 8 i b) (b := 0) (by omega) (by omega)).mp c0
              refine lv_iconst (v := nI (1)) hx hb d_MO_areRecipesRight_76 (by decide) ?_
              refine lv_goto (tgt := 81) hx hb d_MO_areRecipesRight_77 (by decide) ?_
              refine fm_tw (z := (fm_bI (fm_all i (fm_recipe1 (fm_RB f)) && (fm_th (fm_RB f) (fm_AT (fm_RB f) 8 i 3) && fm_all (b + 1) (fm_rec (fm_RB f) i))))) (by first | exact fm_iF1 c_47 | exact fm_iT c_47 (by rw [fm_rec, decide_eq_true c_58]; rfl) | exact fm_iT c_47 (by rw [fm_rec, c_73, Bool.or_true]) | exact fm_iF2 (by rw [fm_rec, decide_eq_false c_58, c_73]; rfl)) ?_
              refine lv_istore_n (lv' := [(1, .int (fm_bI (fm_all i (fm_recipe1 (fm_RB f)) && (fm_th (fm_RB f) (fm_AT (fm_RB f) 8 i 3) && fm_all (b + 1) (fm_rec (fm_RB f) i))))), (0, .ref fa), (2, .int (nI (i))), (3, .int (nI (b)))]) hx hb d_MO_areRecipesRight_81 rfl hl (by decide) rfl (fun ls hl => ?_)
              refine lv_iinc (v := nI (b + 1)) (lv' := [(3, .int (nI (b + 1))), (1, .int (fm_bI (fm_all i (fm_recipe1 (fm_RB f)) && (fm_th (fm_RB f) (fm_AT (fm_RB f) 8 i 3) && fm_all (b + 1) (fm_rec (fm_RB f) i))))), (0, .ref fa), (2, .int (nI (i)))]) hx hb d_MO_areRecipesRight_82 hl (k := 3) rfl (nI_1 _) (by decide) rfl (fun ls hl => ?_)
              refine lv_goto (tgt := 41) hx hb d_MO_areRecipesRight_85 (by decide) ?_
              exact ih_41 (b + 1) ls (by omega) (by omega) (lv_sub hl [2, 1, 3, 0] rfl)
            · have c_58 : ¬ (fm_AT (fm_RB f) 8 i b = 0) := fun z => c0 ((nI_eq (a := fm_AT (fm_RB f) 8 i b) (b := 0) (by omega) (by omega)).mpr z)
              refine lv_aload_n hx hb d_MO_areRecipesRight_61 rfl (lv_at hl 0 rfl) ?_
              refine lv_aload_n hx hb d_MO_areRecipesRight_62 rfl (lv_at hl 0 rfl) ?_
              refine lv_bipush (v := nI (8)) hx hb d_MO_areRecipesRight_63 (by decide) ?_
              refine lv_iload_n hx hb d_MO_areRecipesRight_65 rfl (lv_at hl 2 rfl) ?_
              refine lv_iload_n hx hb d_MO_areRecipesRight_66 rfl (lv_at hl 3 rfl) ?_
              refine fm_cs S (c_MO_at l dC dI fa cB f 8 i b (by omega) (hq) (by omega) (by omega)) rfl rfl k_MO_at q_3_184 ⟨Nat.le_of_ble_eq_true rfl, Nat.le_of_ble_eq_true rfl⟩ (hP.sub [0] rfl) (hK.sub [0] rfl) rfl hl.1 rfl (Nat.le_of_ble_eq_true rfl) ⟨Nat.zero_le _, Nat.zero_le _⟩ d_MO_areRecipesRight_67 ?_
              have f0_67 := fm_AT_lt (fm_RB_lt f) 8 i b
              refine fm_cs S (c_MO_isThereN l dC dI fa cB f (fm_AT (fm_RB f) 8 i b) (by omega) (hL)) rfl rfl k_MO_isThere q_3_194 ⟨Nat.le_of_ble_eq_true rfl, Nat.le_of_ble_eq_true rfl⟩ (hP.sub [0] rfl) (hK.sub [0] rfl) rfl hl.1 rfl (Nat.le_of_ble_eq_true rfl) ⟨Nat.zero_le _, Nat.zero_le _⟩ d_MO_areRecipesRight_70 ?_
              refine lv_if_eq (tgt := 80) hx hb d_MO_areRecipesRight_73 (by decide) (fun c0 => ?_) (fun c0 => ?_)
              · have c_73 : (fm_th (fm_RB f) (fm_AT (fm_RB f) 8 i b)) = false := fm_bI_f c0
                refine lv_iconst (v := nI (0)) hx hb d_MO_areRecipesRight_80 (by decide) ?_
                refine fm_tw (z := (fm_bI (fm_all i (fm_recipe1 (fm_RB f)) && (fm_th (fm_RB f) (fm_AT (fm_RB f) 8 i 3) && fm_all (b + 1) (fm_rec (fm_RB f) i))))) (by first | exact fm_iF1 c_47 | exact fm_iT c_47 (by rw [fm_rec, decide_eq_true c_58]; rfl) | exact fm_iT c_47 (by rw [fm_rec, c_73, Bool.or_true]) | exact fm_iF2 (by rw [fm_rec, decide_eq_false c_58, c_73]; rfl)) ?_
                refine lv_istore_n (lv' := [(1, .int (fm_bI (fm_all i (fm_recipe1 (fm_RB f)) && (fm_th (fm_RB f) (fm_AT (fm_RB f) 8 i 3) && fm_all (b + 1) (fm_rec (fm_RB f) i))))), (0, .ref fa), (2, .int (nI (i))), (3, .int (nI (b)))]) hx hb d_MO_areRecipesRight_81 rfl hl (by decide) rfl (fun ls hl => ?_)
                refine lv_iinc (v := nI (b + 1)) (lv' := [(3, .int (nI (b + 1))), (1, .int (fm_bI (fm_all i (fm_recipe1 (fm_RB f)) && (fm_th (fm_RB f) (fm_AT (fm_RB f) 8 i 3) && fm_all (b + 1) (fm_rec (fm_RB f) i))))), (0, .ref fa), (2, .int (nI (i)))]) hx hb d_MO_areRecipesRight_82 hl (k := 3) rfl (nI_1 _) (by decide) rfl (fun ls hl => ?_)
                refine lv_goto (tgt := 41) hx hb d_MO_areRecipesRight_85 (by decide) ?_
                exact ih_41 (b + 1) ls (by omega) (by omega) (lv_sub hl [2, 1, 3, 0] rfl)
              · have c_73 : (fm_th (fm_RB f) (fm_AT (fm_RB f) 8 i b)) = true := fm_bI_t c0
                refine lv_iconst (v := nI (1)) hx hb d_MO_areRecipesRight_76 (by decide) ?_
                refine lv_goto (tgt := 81) hx hb d_MO_areRecipesRight_77 (by decide) ?_
                refine fm_tw (z := (fm_bI (fm_all i (fm_recipe1 (fm_RB f)) && (fm_th (fm_RB f) (fm_AT (fm_RB f) 8 i 3) && fm_all (b + 1) (fm_rec (fm_RB f) i))))) (by first | exact fm_iF1 c_47 | exact fm_iT c_47 (by rw [fm_rec, decide_eq_true c_58]; rfl) | exact fm_iT c_47 (by rw [fm_rec, c_73, Bool.or_true]) | exact fm_iF2 (by rw [fm_rec, decide_eq_false c_58, c_73]; rfl)) ?_
                refine lv_istore_n (lv' := [(1, .int (fm_bI (fm_all i (fm_recipe1 (fm_RB f)) && (fm_th (fm_RB f) (fm_AT (fm_RB f) 8 i 3) && fm_all (b + 1) (fm_rec (fm_RB f) i))))), (0, .ref fa), (2, .int (nI (i))), (3, .int (nI (b)))]) hx hb d_MO_areRecipesRight_81 rfl hl (by decide) rfl (fun ls hl => ?_)
                refine lv_iinc (v := nI (b + 1)) (lv' := [(3, .int (nI (b + 1))), (1, .int (fm_bI (fm_all i (fm_recipe1 (fm_RB f)) && (fm_th (fm_RB f) (fm_AT (fm_RB f) 8 i 3) && fm_all (b + 1) (fm_rec (fm_RB f) i))))), (0, .ref fa), (2, .int (nI (i)))]) hx hb d_MO_areRecipesRight_82 hl (k := 3) rfl (nI_1 _) (by decide) rfl (fun ls hl => ?_)
                refine lv_goto (tgt := 41) hx hb d_MO_areRecipesRight_85 (by decide) ?_
                exact ih_41 (b + 1) ls (by omega) (by omega) (lv_sub hl [2, 1, 3, 0] rfl)
theorem d_MO_designOf_0 : decode b_MO_designOf 0 = .ok (.iconst 0, 1) := by decide +kernel
theorem d_MO_designOf_1 : decode b_MO_designOf 1 = .ok (.istore_n 1, 1) := by decide +kernel
theorem d_MO_designOf_2 : decode b_MO_designOf 2 = .ok (.iconst 0, 1) := by decide +kernel
theorem d_MO_designOf_3 : decode b_MO_designOf 3 = .ok (.istore_n 2, 1) := by decide +kernel
theorem d_MO_designOf_4 : decode b_MO_designOf 4 = .ok (.iload_n 2, 1) := by decide +kernel
theorem d_MO_designOf_5 : decode b_MO_designOf 5 = .ok (.iconst 4, 1) := by decide +kernel
theorem d_MO_designOf_6 : decode b_MO_designOf 6 = .ok (.if_icmp .ge 22, 3) := by decide +kernel
theorem d_MO_designOf_9 : decode b_MO_designOf 9 = .ok (.iload_n 1, 1) := by decide +kernel
theorem d_MO_designOf_10 : decode b_MO_designOf 10 = .ok (.bipush 8, 2) := by decide +kernel
theorem d_MO_designOf_12 : decode b_MO_designOf 12 = .ok (.ishl, 1) := by decide +kernel
theorem d_MO_designOf_13 : decode b_MO_designOf 13 = .ok (.aload_n 0, 1) := by decide +kernel
theorem d_MO_designOf_14 : decode b_MO_designOf 14 = .ok (.iconst 0, 1) := by decide +kernel
theorem d_MO_designOf_15 : decode b_MO_designOf 15 = .ok (.iconst 1, 1) := by decide +kernel
theorem d_MO_designOf_16 : decode b_MO_designOf 16 = .ok (.iload_n 2, 1) := by decide +kernel
theorem d_MO_designOf_17 : decode b_MO_designOf 17 = .ok (.invokestatic 43, 3) := by decide +kernel
theorem d_MO_designOf_20 : decode b_MO_designOf 20 = .ok (.ior, 1) := by decide +kernel
theorem d_MO_designOf_21 : decode b_MO_designOf 21 = .ok (.istore_n 1, 1) := by decide +kernel
theorem d_MO_designOf_22 : decode b_MO_designOf 22 = .ok (.iinc 2 1, 3) := by decide +kernel
theorem d_MO_designOf_25 : decode b_MO_designOf 25 = .ok (.goto (-21), 3) := by decide +kernel
theorem d_MO_designOf_28 : decode b_MO_designOf 28 = .ok (.iload_n 1, 1) := by decide +kernel
theorem d_MO_designOf_29 : decode b_MO_designOf 29 = .ok (.ireturn, 1) := by decide +kernel
set_option maxHeartbeats 4000000 in
set_option maxRecDepth 100000 in
theorem c_MO_designOf (l : Launch) (dC : Nat → ClassId) (dI : Nat → Nat → Nat) (fa : Nat) (cB : ClassId) (f : Nat → Int32) (hL : fm_Len (fm_RB f)) : fm_M l (dC, dI) y_MO_designOf w_MO_designOf ({ frames := 4, cells := 0, slots := 0, locals := 88 }) [.ref fa] [(fa, .inl (cB, 8192, .inl (f)))] [(cB, .byte)] ((nI (fm_WO (fm_RB f) 7))) := by
  refine Met.ofW (cc := b_MO_designOf) (maxL := 3) (ret := (some .int)) (by decide) rfl ?_
  intro pg ev s m args below meth cd s₁ BD hml hv
  obtain ⟨rfl, hP, hK⟩ := hv
  have hx := BD.exec
  have hb := BD.bytes
  have hr := BD.returns
  have hts := atoms_spec (ws := w_MO_designOf) BD.pre
  have ht : ∀ w ∈ fm_T, w.before _ s = true := fun w h => hts w (List.mem_cons_of_mem _ h)
  have hown : s.vm.findClass R_MO = some m.cls := findClass_of_methodNamed BD.named
  have hlocks := BD.notSynchronized
  have S : CallFix pg m cd b_MO_designOf 3 s _ w_MO_designOf R_MO := ⟨hx, hb, hml, hown, hts⟩
  have hl := lv_entry ([.ref fa]) (n := 3) (Nat.le_of_ble_eq_true rfl)
  rw [lg_entry_eq]
  generalize (lg_sl ([.ref fa]) ++ List.replicate (3 - (lg_sl ([.ref fa])).length) Slot.unset).toArray = ls at hl ⊢
  have hl : lv_has ls 3 [(0, .ref fa)] := hl
  obtain ⟨-, hq, h3, h10⟩ := id hL
  have hin : fm_ST (fm_RB f) 0 + 1 < 2048 := by show 6 + 1 < 2048; decide
  refine lv_iconst (v := nI (0)) hx hb d_MO_designOf_0 (by decide) ?_
  refine lv_istore_n (lv' := [(1, .int (nI (0))), (0, .ref fa)]) hx hb d_MO_designOf_1 rfl hl (by decide) rfl (fun ls hl => ?_)
  refine lv_iconst (v := nI (0)) hx hb d_MO_designOf_2 (by decide) ?_
  refine lv_istore_n (lv' := [(2, .int (nI (0))), (1, .int (nI (0))), (0, .ref fa)]) hx hb d_MO_designOf_3 rfl hl (by decide) rfl (fun ls hl => ?_)
  refine lv_iload_n hx hb d_MO_designOf_4 rfl (lv_at hl 0 rfl) ?_
  refine lv_iconst (v := nI (4)) hx hb d_MO_designOf_5 (by decide) ?_
  refine lv_icmp_ge (tgt := 28) hx hb d_MO_designOf_6 (by decide) (fun c0 => ?_) (fun c0 => ?_)
  · have c_6 : 4 ≤ 0 := (nI_leI (a := 4) (b := 0) (by omega) (by omega)).mp c0
    exact absurd c_6 (by decide)
  · have c_6 : ¬ (4 ≤ 0) := fun z => c0 ((nI_leI (a := 4) (b := 0) (by omega) (by omega)).mpr z)
    refine lv_iload_n hx hb d_MO_designOf_9 rfl (lv_at hl 1 rfl) ?_
    refine lv_bipush (v := nI (8)) hx hb d_MO_designOf_10 (by decide) ?_
    refine lv_ishl hx hb d_MO_designOf_12 ?_
    refine lv_aload_n hx hb d_MO_designOf_13 rfl (lv_at hl 2 rfl) ?_
    refine lv_iconst (v := nI (0)) hx hb d_MO_designOf_14 (by decide) ?_
    refine lv_iconst (v := nI (1)) hx hb d_MO_designOf_15 (by decide) ?_
    refine lv_iload_n hx hb d_MO_designOf_16 rfl (lv_at hl 0 rfl) ?_
    refine fm_cs S (c_MO_at l dC dI fa cB f 0 1 0 (by omega) (hq) (by omega) (by omega)) rfl rfl k_MO_at q_3_184 ⟨Nat.le_of_ble_eq_true rfl, Nat.le_of_ble_eq_true rfl⟩ (hP.sub [0] rfl) (hK.sub [0] rfl) rfl hl.1 rfl (Nat.le_of_ble_eq_true rfl) ⟨Nat.zero_le _, Nat.zero_le _⟩ d_MO_designOf_17 ?_
    have f0_17 := fm_AT_lt (fm_RB_lt f) 0 1 0
    refine lv_ior hx hb d_MO_designOf_20 ?_
    refine lv_istore_n (lv' := [(1, .int ((nI (0) <<< (nI (8) &&& 31)) ||| nI (fm_AT (fm_RB f) 0 1 0))), (2, .int (nI (0))), (0, .ref fa)]) hx hb d_MO_designOf_21 rfl hl (by decide) rfl (fun ls hl => ?_)
    refine lv_iinc (v := nI (1)) (lv' := [(2, .int (nI (1))), (1, .int ((nI (0) <<< (nI (8) &&& 31)) ||| nI (fm_AT (fm_RB f) 0 1 0))), (0, .ref fa)]) hx hb d_MO_designOf_22 hl (k := 1) rfl (nI_1 0) (by decide) rfl (fun ls hl => ?_)
    refine lv_goto (tgt := 4) hx hb d_MO_designOf_25 (by decide) ?_
    refine lv_iload_n hx hb d_MO_designOf_4 rfl (lv_at hl 0 rfl) ?_
    refine lv_iconst (v := nI (4)) hx hb d_MO_designOf_5 (by decide) ?_
    refine lv_icmp_ge (tgt := 28) hx hb d_MO_designOf_6 (by decide) (fun c0 => ?_) (fun c0 => ?_)
    · have c_6 : 4 ≤ 1 := (nI_leI (a := 4) (b := 1) (by omega) (by omega)).mp c0
      exact absurd c_6 (by decide)
    · have c_6 : ¬ (4 ≤ 1) := fun z => c0 ((nI_leI (a := 4) (b := 1) (by omega) (by omega)).mpr z)
      refine lv_iload_n hx hb d_MO_designOf_9 rfl (lv_at hl 1 rfl) ?_
      refine lv_bipush (v := nI (8)) hx hb d_MO_designOf_10 (by decide) ?_
      refine lv_ishl hx hb d_MO_designOf_12 ?_
      refine lv_aload_n hx hb d_MO_designOf_13 rfl (lv_at hl 2 rfl) ?_
      refine lv_iconst (v := nI (0)) hx hb d_MO_designOf_14 (by decide) ?_
      refine lv_iconst (v := nI (1)) hx hb d_MO_designOf_15 (by decide) ?_
      refine lv_iload_n hx hb d_MO_designOf_16 rfl (lv_at hl 0 rfl) ?_
      refine fm_cs S (c_MO_at l dC dI fa cB f 0 1 1 (by omega) (hq) (by omega) (by omega)) rfl rfl k_MO_at q_3_184 ⟨Nat.le_of_ble_eq_true rfl, Nat.le_of_ble_eq_true rfl⟩ (hP.sub [0] rfl) (hK.sub [0] rfl) rfl hl.1 rfl (Nat.le_of_ble_eq_true rfl) ⟨Nat.zero_le _, Nat.zero_le _⟩ d_MO_designOf_17 ?_
      have f0_17 := fm_AT_lt (fm_RB_lt f) 0 1 1
      refine lv_ior hx hb d_MO_designOf_20 ?_
      refine lv_istore_n (lv' := [(1, .int ((((nI (0) <<< (nI (8) &&& 31)) ||| nI (fm_AT (fm_RB f) 0 1 0)) <<< (nI (8) &&& 31)) ||| nI (fm_AT (fm_RB f) 0 1 1))), (2, .int (nI (1))), (0, .ref fa)]) hx hb d_MO_designOf_21 rfl hl (by decide) rfl (fun ls hl => ?_)
      refine lv_iinc (v := nI (2)) (lv' := [(2, .int (nI (2))), (1, .int ((((nI (0) <<< (nI (8) &&& 31)) ||| nI (fm_AT (fm_RB f) 0 1 0)) <<< (nI (8) &&& 31)) ||| nI (fm_AT (fm_RB f) 0 1 1))), (0, .ref fa)]) hx hb d_MO_designOf_22 hl (k := 1) rfl (nI_1 1) (by decide) rfl (fun ls hl => ?_)
      refine lv_goto (tgt := 4) hx hb d_MO_designOf_25 (by decide) ?_
      refine lv_iload_n hx hb d_MO_designOf_4 rfl (lv_at hl 0 rfl) ?_
      refine lv_iconst (v := nI (4)) hx hb d_MO_designOf_5 (by decide) ?_
      refine lv_icmp_ge (tgt := 28) hx hb d_MO_designOf_6 (by decide) (fun c0 => ?_) (fun c0 => ?_)
      · have c_6 : 4 ≤ 2 := (nI_leI (a := 4) (b := 2) (by omega) (by omega)).mp c0
        exact absurd c_6 (by decide)
      · have c_6 : ¬ (4 ≤ 2) := fun z => c0 ((nI_leI (a := 4) (b := 2) (by omega) (by omega)).mpr z)
        refine lv_iload_n hx hb d_MO_designOf_9 rfl (lv_at hl 1 rfl) ?_
        refine lv_bipush (v := nI (8)) hx hb d_MO_designOf_10 (by decide) ?_
        refine lv_ishl hx hb d_MO_designOf_12 ?_
        refine lv_aload_n hx hb d_MO_designOf_13 rfl (lv_at hl 2 rfl) ?_
        refine lv_iconst (v := nI (0)) hx hb d_MO_designOf_14 (by decide) ?_
        refine lv_iconst (v := nI (1)) hx hb d_MO_designOf_15 (by decide) ?_
        refine lv_iload_n hx hb d_MO_designOf_16 rfl (lv_at hl 0 rfl) ?_
        refine fm_cs S (c_MO_at l dC dI fa cB f 0 1 2 (by omega) (hq) (by omega) (by omega)) rfl rfl k_MO_at q_3_184 ⟨Nat.le_of_ble_eq_true rfl, Nat.le_of_ble_eq_true rfl⟩ (hP.sub [0] rfl) (hK.sub [0] rfl) rfl hl.1 rfl (Nat.le_of_ble_eq_true rfl) ⟨Nat.zero_le _, Nat.zero_le _⟩ d_MO_designOf_17 ?_
        have f0_17 := fm_AT_lt (fm_RB_lt f) 0 1 2
        refine lv_ior hx hb d_MO_designOf_20 ?_
        refine lv_istore_n (lv' := [(1, .int ((((((nI (0) <<< (nI (8) &&& 31)) ||| nI (fm_AT (fm_RB f) 0 1 0)) <<< (nI (8) &&& 31)) ||| nI (fm_AT (fm_RB f) 0 1 1)) <<< (nI (8) &&& 31)) ||| nI (fm_AT (fm_RB f) 0 1 2))), (2, .int (nI (2))), (0, .ref fa)]) hx hb d_MO_designOf_21 rfl hl (by decide) rfl (fun ls hl => ?_)
        refine lv_iinc (v := nI (3)) (lv' := [(2, .int (nI (3))), (1, .int ((((((nI (0) <<< (nI (8) &&& 31)) ||| nI (fm_AT (fm_RB f) 0 1 0)) <<< (nI (8) &&& 31)) ||| nI (fm_AT (fm_RB f) 0 1 1)) <<< (nI (8) &&& 31)) ||| nI (fm_AT (fm_RB f) 0 1 2))), (0, .ref fa)]) hx hb d_MO_designOf_22 hl (k := 1) rfl (nI_1 2) (by decide) rfl (fun ls hl => ?_)
        refine lv_goto (tgt := 4) hx hb d_MO_designOf_25 (by decide) ?_
        refine lv_iload_n hx hb d_MO_designOf_4 rfl (lv_at hl 0 rfl) ?_
        refine lv_iconst (v := nI (4)) hx hb d_MO_designOf_5 (by decide) ?_
        refine lv_icmp_ge (tgt := 28) hx hb d_MO_designOf_6 (by decide) (fun c0 => ?_) (fun c0 => ?_)
        · have c_6 : 4 ≤ 3 := (nI_leI (a := 4) (b := 3) (by omega) (by omega)).mp c0
          exact absurd c_6 (by decide)
        · have c_6 : ¬ (4 ≤ 3) := fun z => c0 ((nI_leI (a := 4) (b := 3) (by omega) (by omega)).mpr z)
          refine lv_iload_n hx hb d_MO_designOf_9 rfl (lv_at hl 1 rfl) ?_
          refine lv_bipush (v := nI (8)) hx hb d_MO_designOf_10 (by decide) ?_
          refine lv_ishl hx hb d_MO_designOf_12 ?_
          refine lv_aload_n hx hb d_MO_designOf_13 rfl (lv_at hl 2 rfl) ?_
          refine lv_iconst (v := nI (0)) hx hb d_MO_designOf_14 (by decide) ?_
          refine lv_iconst (v := nI (1)) hx hb d_MO_designOf_15 (by decide) ?_
          refine lv_iload_n hx hb d_MO_designOf_16 rfl (lv_at hl 0 rfl) ?_
          refine fm_cs S (c_MO_at l dC dI fa cB f 0 1 3 (by omega) (hq) (by omega) (by omega)) rfl rfl k_MO_at q_3_184 ⟨Nat.le_of_ble_eq_true rfl, Nat.le_of_ble_eq_true rfl⟩ (hP.sub [0] rfl) (hK.sub [0] rfl) rfl hl.1 rfl (Nat.le_of_ble_eq_true rfl) ⟨Nat.zero_le _, Nat.zero_le _⟩ d_MO_designOf_17 ?_
          have f0_17 := fm_AT_lt (fm_RB_lt f) 0 1 3
          refine lv_ior hx hb d_MO_designOf_20 ?_
          refine lv_istore_n (lv' := [(1, .int ((((((((nI (0) <<< (nI (8) &&& 31)) ||| nI (fm_AT (fm_RB f) 0 1 0)) <<< (nI (8) &&& 31)) ||| nI (fm_AT (fm_RB f) 0 1 1)) <<< (nI (8) &&& 31)) ||| nI (fm_AT (fm_RB f) 0 1 2)) <<< (nI (8) &&& 31)) ||| nI (fm_AT (fm_RB f) 0 1 3))), (2, .int (nI (3))), (0, .ref fa)]) hx hb d_MO_designOf_21 rfl hl (by decide) rfl (fun ls hl => ?_)
          refine lv_iinc (v := nI (4)) (lv' := [(2, .int (nI (4))), (1, .int ((((((((nI (0) <<< (nI (8) &&& 31)) ||| nI (fm_AT (fm_RB f) 0 1 0)) <<< (nI (8) &&& 31)) ||| nI (fm_AT (fm_RB f) 0 1 1)) <<< (nI (8) &&& 31)) ||| nI (fm_AT (fm_RB f) 0 1 2)) <<< (nI (8) &&& 31)) ||| nI (fm_AT (fm_RB f) 0 1 3))), (0, .ref fa)]) hx hb d_MO_designOf_22 hl (k := 1) rfl (nI_1 3) (by decide) rfl (fun ls hl => ?_)
          refine lv_goto (tgt := 4) hx hb d_MO_designOf_25 (by decide) ?_
          refine lv_iload_n hx hb d_MO_designOf_4 rfl (lv_at hl 0 rfl) ?_
          refine lv_iconst (v := nI (4)) hx hb d_MO_designOf_5 (by decide) ?_
          refine lv_icmp_ge (tgt := 28) hx hb d_MO_designOf_6 (by decide) (fun c0 => ?_) (fun c0 => ?_)
          · have c_6 : 4 ≤ 4 := (nI_leI (a := 4) (b := 4) (by omega) (by omega)).mp c0
            refine lv_iload_n hx hb d_MO_designOf_28 rfl (lv_at hl 1 rfl) ?_
            exact W.iret hx hb hr (fun t ht hW => ⟨_, rfl, fm_four (fm_RB_lt f _) (fm_RB_lt f _) (fm_RB_lt f _) (fm_RB_lt f _), ht⟩) (fun q hq => by cases hq) d_MO_designOf_29
          · have c_6 : ¬ (4 ≤ 4) := fun z => c0 ((nI_leI (a := 4) (b := 4) (by omega) (by omega)).mpr z)
            exact absurd c_6 (by decide)
