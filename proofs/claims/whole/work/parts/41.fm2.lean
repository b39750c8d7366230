theorem d_LI_lay_0 : decode b_LI_lay 0 = .ok (.aload_n 0, 1) := by decide +kernel
theorem d_LI_lay_1 : decode b_LI_lay 1 = .ok (.iconst 0, 1) := by decide +kernel
theorem d_LI_lay_2 : decode b_LI_lay 2 = .ok (.putfield 22, 3) := by decide +kernel
theorem d_LI_lay_5 : decode b_LI_lay 5 = .ok (.aload_n 1, 1) := by decide +kernel
theorem d_LI_lay_6 : decode b_LI_lay 6 = .ok (.invokevirtual 29, 3) := by decide +kernel
theorem d_LI_lay_9 : decode b_LI_lay 9 = .ok (.iconst (-1), 1) := by decide +kernel
theorem d_LI_lay_10 : decode b_LI_lay 10 = .ok (.if_icmp .eq 10, 3) := by decide +kernel
theorem d_LI_lay_13 : decode b_LI_lay 13 = .ok (.aload_n 0, 1) := by decide +kernel
theorem d_LI_lay_14 : decode b_LI_lay 14 = .ok (.sipush 256, 3) := by decide +kernel
theorem d_LI_lay_17 : decode b_LI_lay 17 = .ok (.invokevirtual 35, 3) := by decide +kernel
theorem d_LI_lay_20 : decode b_LI_lay 20 = .ok (.iload_n 3, 1) := by decide +kernel
theorem d_LI_lay_21 : decode b_LI_lay 21 = .ok (.aload_n 2, 1) := by decide +kernel
theorem d_LI_lay_22 : decode b_LI_lay 22 = .ok (.arraylength, 1) := by decide +kernel
theorem d_LI_lay_23 : decode b_LI_lay 23 = .ok (.invokestatic 39, 3) := by decide +kernel
theorem d_LI_lay_26 : decode b_LI_lay 26 = .ok (.iconst 1, 1) := by decide +kernel
theorem d_LI_lay_27 : decode b_LI_lay 27 = .ok (.isub, 1) := by decide +kernel
theorem d_LI_lay_28 : decode b_LI_lay 28 = .ok (.istore 4, 2) := by decide +kernel
theorem d_LI_lay_30 : decode b_LI_lay 30 = .ok (.iload 4, 2) := by decide +kernel
theorem d_LI_lay_32 : decode b_LI_lay 32 = .ok (.ifCond .lt 17, 3) := by decide +kernel
theorem d_LI_lay_35 : decode b_LI_lay 35 = .ok (.aload_n 0, 1) := by decide +kernel
theorem d_LI_lay_36 : decode b_LI_lay 36 = .ok (.aload_n 2, 1) := by decide +kernel
theorem d_LI_lay_37 : decode b_LI_lay 37 = .ok (.iload 4, 2) := by decide +kernel
theorem d_LI_lay_39 : decode b_LI_lay 39 = .ok (.iaload, 1) := by decide +kernel
theorem d_LI_lay_40 : decode b_LI_lay 40 = .ok (.invokevirtual 35, 3) := by decide +kernel
theorem d_LI_lay_43 : decode b_LI_lay 43 = .ok (.iinc 4 (-1), 3) := by decide +kernel
theorem d_LI_lay_46 : decode b_LI_lay 46 = .ok (.goto (-16), 3) := by decide +kernel
theorem d_LI_lay_49 : decode b_LI_lay 49 = .ok (.aload_n 1, 1) := by decide +kernel
theorem d_LI_lay_50 : decode b_LI_lay 50 = .ok (.invokevirtual 45, 3) := by decide +kernel
theorem d_LI_lay_53 : decode b_LI_lay 53 = .ok (.iconst (-1), 1) := by decide +kernel
theorem d_LI_lay_54 : decode b_LI_lay 54 = .ok (.if_icmp .eq 10, 3) := by decide +kernel
theorem d_LI_lay_57 : decode b_LI_lay 57 = .ok (.aload_n 0, 1) := by decide +kernel
theorem d_LI_lay_58 : decode b_LI_lay 58 = .ok (.sipush 256, 3) := by decide +kernel
theorem d_LI_lay_61 : decode b_LI_lay 61 = .ok (.invokevirtual 35, 3) := by decide +kernel
theorem d_LI_lay_64 : decode b_LI_lay 64 = .ok (.return_, 1) := by decide +kernel
set_option maxHeartbeats 4000000 in
set_option maxRecDepth 100000 in
theorem c_LI_lay (l : Launch) (dC : Nat → ClassId) (dI : Nat → Nat → Nat) (q : Nat) (pa : Nat) (va : Nat) (na : Nat) (le : Int32) (co : Int32) (cI : ClassId) (pd : Nat → Int32) (ra : Nat) (rn : Nat) (rw : Nat → Int32) (r : Nat → Nat) (o : Nat) (wa : Nat) (sa : Nat) (la : Nat) (s0 : Nat) (B : Nat → Nat) (w : Nat → Int32) (st : Nat → Int32) (ln : Nat → Int32) (hF : fm_FO B w st ln) (hrn : rn ≤ 64) (hrw : ∀ i, i < rn → rw i = nI (r i) ∧ r i ≤ 255) : fm_MX (S := (Nat → Int32)) l (dC, dI) y_LI_lay w_LI_lay ({ frames := 2, cells := 0, slots := 0, locals := 44 }) [.ref q, .ref o, .ref ra, .int (nI (rn))] [(q, .inr (2, [.ref pa, .ref va, .ref na, .int (le), .int (co)])), (pa, .inl (cI, 1066, .inl (pd))), (ra, .inl (cI, 64, .inl (rw))), (o, .inr (1, [.ref wa, .ref sa, .ref la, .int (nI (fm_HF B 2)), .int (nI (fm_HF B 3)), .int (nI (s0)), .int (nI (fm_z s0)), .int (nI (fm_h s0))])), (wa, .inl (cI, 2048, .inl (w))), (sa, .inl (cI, 10, .inl (st))), (la, .inl (cI, 10, .inl (ln)))] [(cI, .int)] (fun u => fm_PD u (fm_T0 B r rn)) (fun u => none) (fun u => [(q, .inr (2, [.ref pa, .ref va, .ref na, .int (nI ((fm_T0 B r rn).length)), .int (co)])), (pa, .inl (cI, 1066, .inl (u))), (ra, .inl (cI, 64, .inl (rw))), (o, .inr (1, [.ref wa, .ref sa, .ref la, .int (nI (fm_HF B 2)), .int (nI (fm_HF B 3)), .int (nI (s0)), .int (nI (fm_z s0)), .int (nI (fm_h s0))])), (wa, .inl (cI, 2048, .inl (w))), (sa, .inl (cI, 10, .inl (st))), (la, .inl (cI, 10, .inl (ln)))]) := by
  refine Met.ofW (cc := b_LI_lay) (maxL := 5) (ret := none) (by decide) rfl ?_
  intro pg ev s m args below meth cd s₁ BD hml hv
  obtain ⟨rfl, hP, hK, hD0⟩ := hv
  have hx := BD.exec
  have hb := BD.bytes
  have hr := BD.returns
  have hts := atoms_spec (ws := w_LI_lay) BD.pre
  have ht : ∀ w ∈ fm_T, w.before _ s = true := fun w h => hts w (List.mem_cons_of_mem _ h)
  have hown : s.vm.findClass R_LI = some m.cls := findClass_of_methodNamed BD.named
  have hlocks := BD.notSynchronized
  have S : CallFix pg m cd b_LI_lay 5 s _ w_LI_lay R_LI := ⟨hx, hb, hml, hown, hts⟩
  have hD := fm_selfD hD0
  generalize fm_A [(q, .inr (2, [.ref pa, .ref va, .ref na, .int (le), .int (co)])), (pa, .inl (cI, 1066, .inl (pd))), (ra, .inl (cI, 64, .inl (rw))), (o, .inr (1, [.ref wa, .ref sa, .ref la, .int (nI (fm_HF B 2)), .int (nI (fm_HF B 3)), .int (nI (s0)), .int (nI (fm_z s0)), .int (nI (fm_h s0))])), (wa, .inl (cI, 2048, .inl (w))), (sa, .inl (cI, 10, .inl (st))), (la, .inl (cI, 10, .inl (ln)))] = A at hD ⊢
  have hS : va_S A s.heap s.heap [] := va_S.rf
  have hl := lv_entry ([.ref q, .ref o, .ref ra, .int (nI (rn))]) (n := 5) (Nat.le_of_ble_eq_true rfl)
  rw [lg_entry_eq]
  generalize (lg_sl ([.ref q, .ref o, .ref ra, .int (nI (rn))]) ++ List.replicate (5 - (lg_sl ([.ref q, .ref o, .ref ra, .int (nI (rn))])).length) Slot.unset).toArray = ls at hl ⊢
  have hl : lv_has ls 5 [(0, .ref q), (1, .ref o), (2, .ref ra), (3, .int (nI (rn)))] := hl
  have hB : ∀ i, B i < 256 := hF.1.1
  obtain ⟨hL, hFw, hFs, hFl⟩ := id hF
  obtain ⟨-, hq, h3, h10⟩ := id hL
  refine lv_aload_n hx hb d_LI_lay_0 rfl (lv_at hl 0 rfl) ?_
  refine lv_iconst (v := nI (0)) hx hb d_LI_lay_1 (by decide) ?_
  refine va_put (D := (dC, dI)) (ci := 2) (v := .int (nI (0))) (ty := .int) (C := R_LI) (T := F_LI) (N := 5) hx hb ht i_LI t_LI t_LI_ok n_LI hown hK hP hD hS 0 rfl rfl 3 (by decide) (ht _ q_1_48) (fun _ h9 => h9) rfl (by decide +kernel) (rfl) (rfl) (Nat.le_of_ble_eq_true rfl) d_LI_lay_2 (fun H locs hP hD hS => ?_)
  have hP : va_P (dC, dI) classes [(q, .inr (2, [.ref pa, .ref va, .ref na, .int (nI (0)), .int (co)])), (pa, .inl (cI, 1066, .inl (pd))), (ra, .inl (cI, 64, .inl (rw))), (o, .inr (1, [.ref wa, .ref sa, .ref la, .int (nI (fm_HF B 2)), .int (nI (fm_HF B 3)), .int (nI (s0)), .int (nI (fm_z s0)), .int (nI (fm_h s0))])), (wa, .inl (cI, 2048, .inl (w))), (sa, .inl (cI, 10, .inl (st))), (la, .inl (cI, 10, .inl (ln)))] _ := hP
  have hD : va_D A [(q, .inr (2, [.ref pa, .ref va, .ref na, .int (nI (0)), .int (co)])), (pa, .inl (cI, 1066, .inl (pd))), (ra, .inl (cI, 64, .inl (rw))), (o, .inr (1, [.ref wa, .ref sa, .ref la, .int (nI (fm_HF B 2)), .int (nI (fm_HF B 3)), .int (nI (s0)), .int (nI (fm_z s0)), .int (nI (fm_h s0))])), (wa, .inl (cI, 2048, .inl (w))), (sa, .inl (cI, 10, .inl (st))), (la, .inl (cI, 10, .inl (ln)))] := hD
  refine lv_aload_n hx hb d_LI_lay_5 rfl (lv_at hl 1 rfl) ?_
  refine fm_cv S (c_FO_edge l dC dI o wa sa la (nI (s0)) (nI (fm_z s0)) (nI (fm_h s0)) cI B w st ln (hF)) rfl rfl k_FO_edge q_3_48 ⟨Nat.le_of_ble_eq_true rfl, Nat.le_of_ble_eq_true rfl⟩ (hP.sub [3, 4, 5, 6] rfl) (hK.sub [0] rfl) 0 rfl rfl rfl hl.1 rfl (Nat.le_of_ble_eq_true rfl) ⟨Nat.zero_le _, Nat.zero_le _⟩ d_LI_lay_6 ?_
  refine lv_iconst (v := ((-1))) hx hb d_LI_lay_9 (by decide) ?_
  refine lv_icmp_eq (tgt := 20) hx hb d_LI_lay_10 (by decide) (fun c0 => ?_) (fun c0 => ?_)
  · have c_10 := c0
    have hE2 : fm_E2 B = [] := by unfold fm_E2; rw [if_pos ((fm_eg_m1 hB).mp c_10)]
    refine lv_iload_n hx hb d_LI_lay_20 rfl (lv_at hl 3 rfl) ?_
    refine lv_aload_n hx hb d_LI_lay_21 rfl (lv_at hl 2 rfl) ?_
    refine va_alen hx hb hK hP 2 0 rfl rfl (v := nI (64)) rfl d_LI_lay_22 ?_
    refine va_mmin hx hb (by rw [hml]; exact hl.1.symm) hown (ht _ q_3_53) (ht _ q_2_34) (ht _ q_1_10) (ht _ q_2_35) (Nat.le_of_ble_eq_true rfl) (Nat.le_of_ble_eq_true rfl) (Nat.zero_le _) (Nat.zero_le _) d_LI_lay_23 ?_
    refine fm_tw (z := nI (rn)) (fm_min64 hrn) ?_
    refine lv_iconst (v := nI (1)) hx hb d_LI_lay_26 (by decide) ?_
    refine lv_isub hx hb d_LI_lay_27 ?_
    refine fm_tw (z := (nI rn - nI 1)) (rfl) ?_
    refine lv_istore (lv' := [(4, .int (nI rn - nI 1)), (0, .ref q), (1, .ref o), (2, .ref ra), (3, .int (nI (rn)))]) hx hb d_LI_lay_28 hl (by decide) rfl (fun ls hl => ?_)
    have hdr : (fm_row r rn).drop rn = [] := List.drop_eq_nil_of_le (by rw [fm_row_len]; exact Nat.le_refl _)
    refine fm_wloop2 (nL := 5) (LV := fun (j : Nat) (pd2 : Nat → Int32) => [(0, .ref q), (1, .ref o), (2, .ref ra), (4, .int (nI j - nI 1))]) (WS := fun (j : Nat) (pd2 : Nat → Int32) => [(q, .inr (2, [.ref pa, .ref va, .ref na, .int (nI (((fm_row r rn).drop j ++ fm_E2 B).length)), .int (co)])), (pa, .inl (cI, 1066, .inl (pd2))), (ra, .inl (cI, 64, .inl (rw))), (o, .inr (1, [.ref wa, .ref sa, .ref la, .int (nI (fm_HF B 2)), .int (nI (fm_HF B 3)), .int (nI (s0)), .int (nI (fm_z s0)), .int (nI (fm_h s0))])), (wa, .inl (cI, 2048, .inl (w))), (sa, .inl (cI, 10, .inl (st))), (la, .inl (cI, 10, .inl (ln)))]) (I := fun (j : Nat) (pd2 : Nat → Int32) => j ≤ rn ∧ fm_PD pd2 ((fm_row r rn).drop j ++ fm_E2 B)) (μ := fun (j : Nat) (pd2 : Nat → Int32) => j) ?_ rn pd (⟨Nat.le_refl _, by rw [hdr, hE2]; exact fm_PD_nil pd⟩) (by rw [hdr, hE2]; exact hP) (by rw [hdr, hE2]; exact hD) hS ls (lv_sub hl [1, 2, 3, 0] rfl)
    intro j pd2 hI_30 ih_30 H locs ls hP hD hS hl
    have hl : lv_has ls 5 [(0, .ref q), (1, .ref o), (2, .ref ra), (4, .int (nI j - nI 1))] := hl
    have hP : va_P (dC, dI) classes [(q, .inr (2, [.ref pa, .ref va, .ref na, .int (nI (((fm_row r rn).drop j ++ fm_E2 B).length)), .int (co)])), (pa, .inl (cI, 1066, .inl (pd2))), (ra, .inl (cI, 64, .inl (rw))), (o, .inr (1, [.ref wa, .ref sa, .ref la, .int (nI (fm_HF B 2)), .int (nI (fm_HF B 3)), .int (nI (s0)), .int (nI (fm_z s0)), .int (nI (fm_h s0))])), (wa, .inl (cI, 2048, .inl (w))), (sa, .inl (cI, 10, .inl (st))), (la, .inl (cI, 10, .inl (ln)))] _ := hP
    have hD : va_D A [(q, .inr (2, [.ref pa, .ref va, .ref na, .int (nI (((fm_row r rn).drop j ++ fm_E2 B).length)), .int (co)])), (pa, .inl (cI, 1066, .inl (pd2))), (ra, .inl (cI, 64, .inl (rw))), (o, .inr (1, [.ref wa, .ref sa, .ref la, .int (nI (fm_HF B 2)), .int (nI (fm_HF B 3)), .int (nI (s0)), .int (nI (fm_z s0)), .int (nI (fm_h s0))])), (wa, .inl (cI, 2048, .inl (w))), (sa, .inl (cI, 10, .inl (st))), (la, .inl (cI, 10, .inl (ln)))] := hD
    obtain ⟨hj, hPD⟩ := hI_30
    have hE2l := fm_E2_len B
    have hsl : ((fm_row r rn).drop j ++ fm_E2 B).length ≤ rn - j + 1 := by rw [List.length_append, List.length_drop, fm_row_len]; omega
    refine lv_iload hx hb d_LI_lay_30 (lv_at hl 3 rfl) ?_
    refine lv_if_lt (tgt := 49) hx hb d_LI_lay_32 (by decide) (fun c0 => ?_) (fun c0 => ?_)
    · have c_32 := c0
      have hj0 : j = 0 := by
        rcases j with _ | j2
        · rfl
        · exact absurd (show nI j2 < 0 by rw [← nI_pred j2]; exact c_32) (nI_pos (by omega))
      subst hj0
      refine lv_aload_n hx hb d_LI_lay_49 rfl (lv_at hl 1 rfl) ?_
      refine fm_cv S (c_FO_edgeStart l dC dI o wa sa la (nI (s0)) (nI (fm_z s0)) (nI (fm_h s0)) cI B w st ln (hF)) rfl rfl k_FO_edgeStart q_3_54 ⟨Nat.le_of_ble_eq_true rfl, Nat.le_of_ble_eq_true rfl⟩ (hP.sub [3, 4, 5, 6] rfl) (hK.sub [0] rfl) 0 rfl rfl rfl hl.1 rfl (Nat.le_of_ble_eq_true rfl) ⟨Nat.zero_le _, Nat.zero_le _⟩ d_LI_lay_50 ?_
      refine lv_iconst (v := ((-1))) hx hb d_LI_lay_53 (by decide) ?_
      refine lv_icmp_eq (tgt := 64) hx hb d_LI_lay_54 (by decide) (fun c0 => ?_) (fun c0 => ?_)
      · have c_54 := c0
        have hE1 : fm_E1 B = [] := by unfold fm_E1; rw [if_pos ((fm_ep_m1 hB).mp c_54)]
        have eT : fm_T0 B r rn = ((fm_row r rn).drop 0 ++ fm_E2 B) := by unfold fm_T0; rw [hE1, List.append_assoc]; rfl
        exact W.vret hx hb hr (fun t ht hW => ⟨pd2, (by rw [eT]; first | exact hPD | exact fm_PD_push hPD 256), rfl, by rw [ht]; exact show va_P (dC, dI) classes [(q, .inr (2, [.ref pa, .ref va, .ref na, .int (nI ((fm_T0 B r rn).length)), .int (co)])), (pa, .inl (cI, 1066, .inl (pd2))), (ra, .inl (cI, 64, .inl (rw))), (o, .inr (1, [.ref wa, .ref sa, .ref la, .int (nI (fm_HF B 2)), .int (nI (fm_HF B 3)), .int (nI (s0)), .int (nI (fm_z s0)), .int (nI (fm_h s0))])), (wa, .inl (cI, 2048, .inl (w))), (sa, .inl (cI, 10, .inl (st))), (la, .inl (cI, 10, .inl (ln)))] _ from (by rw [eT]; exact hP), hS.F ht⟩) hS.2.2 d_LI_lay_64
      · have c_54 := c0
        have hE1 : fm_E1 B = [256] := by unfold fm_E1; rw [if_neg (fun z => c_54 ((fm_ep_m1 hB).mpr z))]
        refine lv_aload_n hx hb d_LI_lay_57 rfl (lv_at hl 0 rfl) ?_
        refine lv_sipush (v := nI (256)) hx hb d_LI_lay_58 (by decide) ?_
        refine fm_wv S (c_LI_push l dC dI q pa va na (((fm_row r rn).drop 0 ++ fm_E2 B).length) co cI pd2 (nI (256)) (by omega)) rfl rfl k_LI_push q_3_49 ⟨Nat.le_of_ble_eq_true rfl, Nat.le_of_ble_eq_true rfl⟩ hP hD hS (hK.sub [0] rfl) [0, 1] (by decide) rfl 0 rfl rfl rfl hl.1 rfl (Nat.le_of_ble_eq_true rfl) ⟨Nat.zero_le _, Nat.zero_le _⟩ d_LI_lay_61 [(q, .inr (2, [.ref pa, .ref va, .ref na, .int (nI ((((fm_row r rn).drop 0 ++ fm_E2 B).length) + 1)), .int (co)])), (pa, .inl (cI, 1066, .inl (upd pd2 (((fm_row r rn).drop 0 ++ fm_E2 B).length) (nI (256))))), (ra, .inl (cI, 64, .inl (rw))), (o, .inr (1, [.ref wa, .ref sa, .ref la, .int (nI (fm_HF B 2)), .int (nI (fm_HF B 3)), .int (nI (s0)), .int (nI (fm_z s0)), .int (nI (fm_h s0))])), (wa, .inl (cI, 2048, .inl (w))), (sa, .inl (cI, 10, .inl (st))), (la, .inl (cI, 10, .inl (ln)))] [2, 3, 4, 5, 6] rfl rfl (show ∀ i, i < 7 → i ∈ ([0, 1] : List Nat) ∨ i ∈ ([2, 3, 4, 5, 6] : List Nat) by decide) (by decide) rfl (fun H locs hP hD hS => ?_)
        have hP : va_P (dC, dI) classes [(q, .inr (2, [.ref pa, .ref va, .ref na, .int (nI ((((fm_row r rn).drop 0 ++ fm_E2 B).length) + 1)), .int (co)])), (pa, .inl (cI, 1066, .inl (upd pd2 (((fm_row r rn).drop 0 ++ fm_E2 B).length) (nI (256))))), (ra, .inl (cI, 64, .inl (rw))), (o, .inr (1, [.ref wa, .ref sa, .ref la, .int (nI (fm_HF B 2)), .int (nI (fm_HF B 3)), .int (nI (s0)), .int (nI (fm_z s0)), .int (nI (fm_h s0))])), (wa, .inl (cI, 2048, .inl (w))), (sa, .inl (cI, 10, .inl (st))), (la, .inl (cI, 10, .inl (ln)))] _ := hP
        have hD : va_D A [(q, .inr (2, [.ref pa, .ref va, .ref na, .int (nI ((((fm_row r rn).drop 0 ++ fm_E2 B).length) + 1)), .int (co)])), (pa, .inl (cI, 1066, .inl (upd pd2 (((fm_row r rn).drop 0 ++ fm_E2 B).length) (nI (256))))), (ra, .inl (cI, 64, .inl (rw))), (o, .inr (1, [.ref wa, .ref sa, .ref la, .int (nI (fm_HF B 2)), .int (nI (fm_HF B 3)), .int (nI (s0)), .int (nI (fm_z s0)), .int (nI (fm_h s0))])), (wa, .inl (cI, 2048, .inl (w))), (sa, .inl (cI, 10, .inl (st))), (la, .inl (cI, 10, .inl (ln)))] := hD
        have eT : fm_T0 B r rn = 256 :: ((fm_row r rn).drop 0 ++ fm_E2 B) := by unfold fm_T0; rw [hE1, List.append_assoc]; rfl
        exact W.vret hx hb hr (fun t ht hW => ⟨upd pd2 (((fm_row r rn).drop 0 ++ fm_E2 B).length) (nI (256)), (by rw [eT]; first | exact hPD | exact fm_PD_push hPD 256), rfl, by rw [ht]; exact show va_P (dC, dI) classes [(q, .inr (2, [.ref pa, .ref va, .ref na, .int (nI ((fm_T0 B r rn).length)), .int (co)])), (pa, .inl (cI, 1066, .inl (upd pd2 (((fm_row r rn).drop 0 ++ fm_E2 B).length) (nI (256))))), (ra, .inl (cI, 64, .inl (rw))), (o, .inr (1, [.ref wa, .ref sa, .ref la, .int (nI (fm_HF B 2)), .int (nI (fm_HF B 3)), .int (nI (s0)), .int (nI (fm_z s0)), .int (nI (fm_h s0))])), (wa, .inl (cI, 2048, .inl (w))), (sa, .inl (cI, 10, .inl (st))), (la, .inl (cI, 10, .inl (ln)))] _ from (by rw [eT]; exact hP), hS.F ht⟩) hS.2.2 d_LI_lay_64
    · have c_32 := c0
      obtain ⟨j2, rfl⟩ : ∃ q, j = q + 1 := by
        rcases j with _ | j2
        · exact absurd (by decide) c_32
        · exact ⟨j2, rfl⟩
      obtain ⟨hri, hr255⟩ := hrw j2 (by omega)
      have hl : lv_has ls 5 [(0, .ref q), (1, .ref o), (2, .ref ra), (4, .int (nI (j2)))] := by rw [show ((nI (j2 + 1) - nI 1) : Int32) = nI (j2) from nI_pred j2] at hl; exact hl
      refine lv_aload_n hx hb d_LI_lay_35 rfl (lv_at hl 0 rfl) ?_
      refine lv_aload_n hx hb d_LI_lay_36 rfl (lv_at hl 2 rfl) ?_
      refine lv_iload hx hb d_LI_lay_37 (lv_at hl 3 rfl) ?_
      refine va_iald hx hb hK hP 2 0 rfl rfl (vp_in_nI (by omega) (by omega)) d_LI_lay_39 ?_
      refine fm_tw (z := rw (j2)) (by rw [nI_clamp (by omega)]) ?_
      refine fm_tw (z := nI (r j2)) (hri) ?_
      refine fm_wv S (c_LI_push l dC dI q pa va na (((fm_row r rn).drop (j2 + 1) ++ fm_E2 B).length) co cI pd2 (nI (r j2)) (by omega)) rfl rfl k_LI_push q_3_49 ⟨Nat.le_of_ble_eq_true rfl, Nat.le_of_ble_eq_true rfl⟩ hP hD hS (hK.sub [0] rfl) [0, 1] (by decide) rfl 0 rfl rfl rfl hl.1 rfl (Nat.le_of_ble_eq_true rfl) ⟨Nat.zero_le _, Nat.zero_le _⟩ d_LI_lay_40 [(q, .inr (2, [.ref pa, .ref va, .ref na, .int (nI ((((fm_row r rn).drop (j2 + 1) ++ fm_E2 B).length) + 1)), .int (co)])), (pa, .inl (cI, 1066, .inl (upd pd2 (((fm_row r rn).drop (j2 + 1) ++ fm_E2 B).length) (nI (r j2))))), (ra, .inl (cI, 64, .inl (rw))), (o, .inr (1, [.ref wa, .ref sa, .ref la, .int (nI (fm_HF B 2)), .int (nI (fm_HF B 3)), .int (nI (s0)), .int (nI (fm_z s0)), .int (nI (fm_h s0))])), (wa, .inl (cI, 2048, .inl (w))), (sa, .inl (cI, 10, .inl (st))), (la, .inl (cI, 10, .inl (ln)))] [2, 3, 4, 5, 6] rfl rfl (show ∀ i, i < 7 → i ∈ ([0, 1] : List Nat) ∨ i ∈ ([2, 3, 4, 5, 6] : List Nat) by decide) (by decide) rfl (fun H locs hP hD hS => ?_)
      have hP : va_P (dC, dI) classes [(q, .inr (2, [.ref pa, .ref va, .ref na, .int (nI ((((fm_row r rn).drop (j2 + 1) ++ fm_E2 B).length) + 1)), .int (co)])), (pa, .inl (cI, 1066, .inl (upd pd2 (((fm_row r rn).drop (j2 + 1) ++ fm_E2 B).length) (nI (r j2))))), (ra, .inl (cI, 64, .inl (rw))), (o, .inr (1, [.ref wa, .ref sa, .ref la, .int (nI (fm_HF B 2)), .int (nI (fm_HF B 3)), .int (nI (s0)), .int (nI (fm_z s0)), .int (nI (fm_h s0))])), (wa, .inl (cI, 2048, .inl (w))), (sa, .inl (cI, 10, .inl (st))), (la, .inl (cI, 10, .inl (ln)))] _ := hP
      have hD : va_D A [(q, .inr (2, [.ref pa, .ref va, .ref na, .int (nI ((((fm_row r rn).drop (j2 + 1) ++ fm_E2 B).length) + 1)), .int (co)])), (pa, .inl (cI, 1066, .inl (upd pd2 (((fm_row r rn).drop (j2 + 1) ++ fm_E2 B).length) (nI (r j2))))), (ra, .inl (cI, 64, .inl (rw))), (o, .inr (1, [.ref wa, .ref sa, .ref la, .int (nI (fm_HF B 2)), .int (nI (fm_HF B 3)), .int (nI (s0)), .int (nI (fm_z s0)), .int (nI (fm_h s0))])), (wa, .inl (cI, 2048, .inl (w))), (sa, .inl (cI, 10, .inl (st))), (la, .inl (cI, 10, .inl (ln)))] := hD
      refine lv_iinc (v := (nI (j2) - nI 1)) (lv' := [(4, .int (nI (j2) - nI 1)), (0, .ref q), (1, .ref o), (2, .ref ra)]) hx hb d_LI_lay_43 hl (k := 3) rfl (fm_m1 _) (by decide) rfl (fun ls hl => ?_)
      refine lv_goto (tgt := 30) hx hb d_LI_lay_46 (by decide) ?_
      exact ih_30 j2 (upd pd2 (((fm_row r rn).drop (j2 + 1) ++ fm_E2 B).length) (nI (r j2))) H locs ls (⟨by omega, by rw [fm_row_drop r (j := j2) (n := rn) (by omega), List.cons_append]; exact fm_PD_push hPD (r j2)⟩) (by omega) (by rw [fm_row_drop r (j := j2) (n := rn) (by omega), List.cons_append, List.length_cons]; exact hP) (by rw [fm_row_drop r (j := j2) (n := rn) (by omega), List.cons_append, List.length_cons]; exact hD) hS (lv_sub hl [1, 2, 3, 0] rfl)
  · have c_10 := c0
    have hE2 : fm_E2 B = [256] := by unfold fm_E2; rw [if_neg (fun z => c_10 ((fm_eg_m1 hB).mpr z))]
    refine lv_aload_n hx hb d_LI_lay_13 rfl (lv_at hl 0 rfl) ?_
    refine lv_sipush (v := nI (256)) hx hb d_LI_lay_14 (by decide) ?_
    refine fm_wv S (c_LI_push l dC dI q pa va na 0 co cI pd (nI (256)) (by omega)) rfl rfl k_LI_push q_3_49 ⟨Nat.le_of_ble_eq_true rfl, Nat.le_of_ble_eq_true rfl⟩ hP hD hS (hK.sub [0] rfl) [0, 1] (by decide) rfl 0 rfl rfl rfl hl.1 rfl (Nat.le_of_ble_eq_true rfl) ⟨Nat.zero_le _, Nat.zero_le _⟩ d_LI_lay_17 [(q, .inr (2, [.ref pa, .ref va, .ref na, .int (nI (0 + 1)), .int (co)])), (pa, .inl (cI, 1066, .inl (upd pd 0 (nI (256))))), (ra, .inl (cI, 64, .inl (rw))), (o, .inr (1, [.ref wa, .ref sa, .ref la, .int (nI (fm_HF B 2)), .int (nI (fm_HF B 3)), .int (nI (s0)), .int (nI (fm_z s0)), .int (nI (fm_h s0))])), (wa, .inl (cI, 2048, .inl (w))), (sa, .inl (cI, 10, .inl (st))), (la, .inl (cI, 10, .inl (ln)))] [2, 3, 4, 5, 6] rfl rfl (show ∀ i, i < 7 → i ∈ ([0, 1] : List Nat) ∨ i ∈ ([2, 3, 4, 5, 6] : List Nat) by decide) (by decide) rfl (fun H locs hP hD hS => ?_)
    have hP : va_P (dC, dI) classes [(q, .inr (2, [.ref pa, .ref va, .ref na, .int (nI (0 + 1)), .int (co)])), (pa, .inl (cI, 1066, .inl (upd pd 0 (nI (256))))), (ra, .inl (cI, 64, .inl (rw))), (o, .inr (1, [.ref wa, .ref sa, .ref la, .int (nI (fm_HF B 2)), .int (nI (fm_HF B 3)), .int (nI (s0)), .int (nI (fm_z s0)), .int (nI (fm_h s0))])), (wa, .inl (cI, 2048, .inl (w))), (sa, .inl (cI, 10, .inl (st))), (la, .inl (cI, 10, .inl (ln)))] _ := hP
    have hD : va_D A [(q, .inr (2, [.ref pa, .ref va, .ref na, .int (nI (0 + 1)), .int (co)])), (pa, .inl (cI, 1066, .inl (upd pd 0 (nI (256))))), (ra, .inl (cI, 64, .inl (rw))), (o, .inr (1, [.ref wa, .ref sa, .ref la, .int (nI (fm_HF B 2)), .int (nI (fm_HF B 3)), .int (nI (s0)), .int (nI (fm_z s0)), .int (nI (fm_h s0))])), (wa, .inl (cI, 2048, .inl (w))), (sa, .inl (cI, 10, .inl (st))), (la, .inl (cI, 10, .inl (ln)))] := hD
    refine lv_iload_n hx hb d_LI_lay_20 rfl (lv_at hl 3 rfl) ?_
    refine lv_aload_n hx hb d_LI_lay_21 rfl (lv_at hl 2 rfl) ?_
    refine va_alen hx hb hK hP 2 0 rfl rfl (v := nI (64)) rfl d_LI_lay_22 ?_
    refine va_mmin hx hb (by rw [hml]; exact hl.1.symm) hown (ht _ q_3_53) (ht _ q_2_34) (ht _ q_1_10) (ht _ q_2_35) (Nat.le_of_ble_eq_true rfl) (Nat.le_of_ble_eq_true rfl) (Nat.zero_le _) (Nat.zero_le _) d_LI_lay_23 ?_
    refine fm_tw (z := nI (rn)) (fm_min64 hrn) ?_
    refine lv_iconst (v := nI (1)) hx hb d_LI_lay_26 (by decide) ?_
    refine lv_isub hx hb d_LI_lay_27 ?_
    refine fm_tw (z := (nI rn - nI 1)) (rfl) ?_
    refine lv_istore (lv' := [(4, .int (nI rn - nI 1)), (0, .ref q), (1, .ref o), (2, .ref ra), (3, .int (nI (rn)))]) hx hb d_LI_lay_28 hl (by decide) rfl (fun ls hl => ?_)
    have hdr : (fm_row r rn).drop rn = [] := List.drop_eq_nil_of_le (by rw [fm_row_len]; exact Nat.le_refl _)
    refine fm_wloop2 (nL := 5) (LV := fun (j : Nat) (pd2 : Nat → Int32) => [(0, .ref q), (1, .ref o), (2, .ref ra), (4, .int (nI j - nI 1))]) (WS := fun (j : Nat) (pd2 : Nat → Int32) => [(q, .inr (2, [.ref pa, .ref va, .ref na, .int (nI (((fm_row r rn).drop j ++ fm_E2 B).length)), .int (co)])), (pa, .inl (cI, 1066, .inl (pd2))), (ra, .inl (cI, 64, .inl (rw))), (o, .inr (1, [.ref wa, .ref sa, .ref la, .int (nI (fm_HF B 2)), .int (nI (fm_HF B 3)), .int (nI (s0)), .int (nI (fm_z s0)), .int (nI (fm_h s0))])), (wa, .inl (cI, 2048, .inl (w))), (sa, .inl (cI, 10, .inl (st))), (la, .inl (cI, 10, .inl (ln)))]) (I := fun (j : Nat) (pd2 : Nat → Int32) => j ≤ rn ∧ fm_PD pd2 ((fm_row r rn).drop j ++ fm_E2 B)) (μ := fun (j : Nat) (pd2 : Nat → Int32) => j) ?_ rn (upd pd 0 (nI (256))) (⟨Nat.le_refl _, by rw [hdr, hE2]; exact fm_PD_push (fm_PD_nil pd) 256⟩) (by rw [hdr, hE2]; exact hP) (by rw [hdr, hE2]; exact hD) hS ls (lv_sub hl [1, 2, 3, 0] rfl)
    intro j pd2 hI_30 ih_30 H locs ls hP hD hS hl
    have hl : lv_has ls 5 [(0, .ref q), (1, .ref o), (2, .ref ra), (4, .int (nI j - nI 1))] := hl
    have hP : va_P (dC, dI) classes [(q, .inr (2, [.ref pa, .ref va, .ref na, .int (nI (((fm_row r rn).drop j ++ fm_E2 B).length)), .int (co)])), (pa, .inl (cI, 1066, .inl (pd2))), (ra, .inl (cI, 64, .inl (rw))), (o, .inr (1, [.ref wa, .ref sa, .ref la, .int (nI (fm_HF B 2)), .int (nI (fm_HF B 3)), .int (nI (s0)), .int (nI (fm_z s0)), .int (nI (fm_h s0))])), (wa, .inl (cI, 2048, .inl (w))), (sa, .inl (cI, 10, .inl (st))), (la, .inl (cI, 10, .inl (ln)))] _ := hP
    have hD : va_D A [(q, .inr (2, [.ref pa, .ref va, .ref na, .int (nI (((fm_row r rn).drop j ++ fm_E2 B).length)), .int (co)])), (pa, .inl (cI, 1066, .inl (pd2))), (ra, .inl (cI, 64, .inl (rw))), (o, .inr (1, [.ref wa, .ref sa, .ref la, .int (nI (fm_HF B 2)), .int (nI (fm_HF B 3)), .int (nI (s0)), .int (nI (fm_z s0)), .int (nI (fm_h s0))])), (wa, .inl (cI, 2048, .inl (w))), (sa, .inl (cI, 10, .inl (st))), (la, .inl (cI, 10, .inl (ln)))] := hD
    obtain ⟨hj, hPD⟩ := hI_30
    have hE2l := fm_E2_len B
    have hsl : ((fm_row r rn).drop j ++ fm_E2 B).length ≤ rn - j + 1 := by rw [List.length_append, List.length_drop, fm_row_len]; omega
    refine lv_iload hx hb d_LI_lay_30 (lv_at hl 3 rfl) ?_
    refine lv_if_lt (tgt := 49) hx hb d_LI_lay_32 (by decide) (fun c0 => ?_) (fun c0 => ?_)
    · have c_32 := c0
      have hj0 : j = 0 := by
        rcases j with _ | j2
        · rfl
        · exact absurd (show nI j2 < 0 by rw [← nI_pred j2]; exact c_32) (nI_pos (by omega))
      subst hj0
      refine lv_aload_n hx hb d_LI_lay_49 rfl (lv_at hl 1 rfl) ?_
      refine fm_cv S (c_FO_edgeStart l dC dI o wa sa la (nI (s0)) (nI (fm_z s0)) (nI (fm_h s0)) cI B w st ln (hF)) rfl rfl k_FO_edgeStart q_3_54 ⟨Nat.le_of_ble_eq_true rfl, Nat.le_of_ble_eq_true rfl⟩ (hP.sub [3, 4, 5, 6] rfl) (hK.sub [0] rfl) 0 rfl rfl rfl hl.1 rfl (Nat.le_of_ble_eq_true rfl) ⟨Nat.zero_le _, Nat.zero_le _⟩ d_LI_lay_50 ?_
      refine lv_iconst (v := ((-1))) hx hb d_LI_lay_53 (by decide) ?_
      refine lv_icmp_eq (tgt := 64) hx hb d_LI_lay_54 (by decide) (fun c0 => ?_) (fun c0 => ?_)
      · have c_54 := c0
        have hE1 : fm_E1 B = [] := by unfold fm_E1; rw [if_pos ((fm_ep_m1 hB).mp c_54)]
        have eT : fm_T0 B r rn = ((fm_row r rn).drop 0 ++ fm_E2 B) := by unfold fm_T0; rw [hE1, List.append_assoc]; rfl
        exact W.vret hx hb hr (fun t ht hW => ⟨pd2, (by rw [eT]; first | exact hPD | exact fm_PD_push hPD 256), rfl, by rw [ht]; exact show va_P (dC, dI) classes [(q, .inr (2, [.ref pa, .ref va, .ref na, .int (nI ((fm_T0 B r rn).length)), .int (co)])), (pa, .inl (cI, 1066, .inl (pd2))), (ra, .inl (cI, 64, .inl (rw))), (o, .inr (1, [.ref wa, .ref sa, .ref la, .int (nI (fm_HF B 2)), .int (nI (fm_HF B 3)), .int (nI (s0)), .int (nI (fm_z s0)), .int (nI (fm_h s0))])), (wa, .inl (cI, 2048, .inl (w))), (sa, .inl (cI, 10, .inl (st))), (la, .inl (cI, 10, .inl (ln)))] _ from (by rw [eT]; exact hP), hS.F ht⟩) hS.2.2 d_LI_lay_64
      · have c_54 := c0
        have hE1 : fm_E1 B = [256] := by unfold fm_E1; rw [if_neg (fun z => c_54 ((fm_ep_m1 hB).mpr z))]
        refine lv_aload_n hx hb d_LI_lay_57 rfl (lv_at hl 0 rfl) ?_
        refine lv_sipush (v := nI (256)) hx hb d_LI_lay_58 (by decide) ?_
        refine fm_wv S (c_LI_push l dC dI q pa va na (((fm_row r rn).drop 0 ++ fm_E2 B).length) co cI pd2 (nI (256)) (by omega)) rfl rfl k_LI_push q_3_49 ⟨Nat.le_of_ble_eq_true rfl, Nat.le_of_ble_eq_true rfl⟩ hP hD hS (hK.sub [0] rfl) [0, 1] (by decide) rfl 0 rfl rfl rfl hl.1 rfl (Nat.le_of_ble_eq_true rfl) ⟨Nat.zero_le _, Nat.zero_le _⟩ d_LI_lay_61 [(q, .inr (2, [.ref pa, .ref va, .ref na, .int (nI ((((fm_row r rn).drop 0 ++ fm_E2 B).length) + 1)), .int (co)])), (pa, .inl (cI, 1066, .inl (upd pd2 (((fm_row r rn).drop 0 ++ fm_E2 B).length) (nI (256))))), (ra, .inl (cI, 64, .inl (rw))), (o, .inr (1, [.ref wa, .ref sa, .ref la, .int (nI (fm_HF B 2)), .int (nI (fm_HF B 3)), .int (nI (s0)), .int (nI (fm_z s0)), .int (nI (fm_h s0))])), (wa, .inl (cI, 2048, .inl (w))), (sa, .inl (cI, 10, .inl (st))), (la, .inl (cI, 10, .inl (ln)))] [2, 3, 4, 5, 6] rfl rfl (show ∀ i, i < 7 → i ∈ ([0, 1] : List Nat) ∨ i ∈ ([2, 3, 4, 5, 6] : List Nat) by decide) (by decide) rfl (fun H locs hP hD hS => ?_)
        have hP : va_P (dC, dI) classes [(q, .inr (2, [.ref pa, .ref va, .ref na, .int (nI ((((fm_row r rn).drop 0 ++ fm_E2 B).length) + 1)), .int (co)])), (pa, .inl (cI, 1066, .inl (upd pd2 (((fm_row r rn).drop 0 ++ fm_E2 B).length) (nI (256))))), (ra, .inl (cI, 64, .inl (rw))), (o, .inr (1, [.ref wa, .ref sa, .ref la, .int (nI (fm_HF B 2)), .int (nI (fm_HF B 3)), .int (nI (s0)), .int (nI (fm_z s0)), .int (nI (fm_h s0))])), (wa, .inl (cI, 2048, .inl (w))), (sa, .inl (cI, 10, .inl (st))), (la, .inl (cI, 10, .inl (ln)))] _ := hP
        have hD : va_D A [(q, .inr (2, [.ref pa, .ref va, .ref na, .int (nI ((((fm_row r rn).drop 0 ++ fm_E2 B).length) + 1)), .int (co)])), (pa, .inl (cI, 1066, .inl (upd pd2 (((fm_row r rn).drop 0 ++ fm_E2 B).length) (nI (256))))), (ra, .inl (cI, 64, .inl (rw))), (o, .inr (1, [.ref wa, .ref sa, .ref la, .int (nI (fm_HF B 2)), .int (nI (fm_HF B 3)), .int (nI (s0)), .int (nI (fm_z s0)), .int (nI (fm_h s0))])), (wa, .inl (cI, 2048, .inl (w))), (sa, .inl (cI, 10, .inl (st))), (la, .inl (cI, 10, .inl (ln)))] := hD
        have eT : fm_T0 B r rn = 256 :: ((fm_row r rn).drop 0 ++ fm_E2 B) := by unfold fm_T0; rw [hE1, List.append_assoc]; rfl
        exact W.vret hx hb hr (fun t ht hW => ⟨upd pd2 (((fm_row r rn).drop 0 ++ fm_E2 B).length) (nI (256)), (by rw [eT]; first | exact hPD | exact fm_PD_push hPD 256), rfl, by rw [ht]; exact show va_P (dC, dI) classes [(q, .inr (2, [.ref pa, .ref va, .ref na, .int (nI ((fm_T0 B r rn).length)), .int (co)])), (pa, .inl (cI, 1066, .inl (upd pd2 (((fm_row r rn).drop 0 ++ fm_E2 B).length) (nI (256))))), (ra, .inl (cI, 64, .inl (rw))), (o, .inr (1, [.ref wa, .ref sa, .ref la, .int (nI (fm_HF B 2)), .int (nI (fm_HF B 3)), .int (nI (s0)), .int (nI (fm_z s0)), .int (nI (fm_h s0))])), (wa, .inl (cI, 2048, .inl (w))), (sa, .inl (cI, 10, .inl (st))), (la, .inl (cI, 10, .inl (ln)))] _ from (by rw [eT]; exact hP), hS.F ht⟩) hS.2.2 d_LI_lay_64
    · have c_32 := c0
      obtain ⟨j2, rfl⟩ : ∃ q, j = q + 1 := by
        rcases j with _ | j2
        · exact absurd (by decide) c_32
        · exact ⟨j2, rfl⟩
      obtain ⟨hri, hr255⟩ := hrw j2 (by omega)
      have hl : lv_has ls 5 [(0, .ref q), (1, .ref o), (2, .ref ra), (4, .int (nI (j2)))] := by rw [show ((nI (j2 + 1) - nI 1) : Int32) = nI (j2) from nI_pred j2] at hl; exact hl
      refine lv_aload_n hx hb d_LI_lay_35 rfl (lv_at hl 0 rfl) ?_
      refine lv_aload_n hx hb d_LI_lay_36 rfl (lv_at hl 2 rfl) ?_
      refine lv_iload hx hb d_LI_lay_37 (lv_at hl 3 rfl) ?_
      refine va_iald hx hb hK hP 2 0 rfl rfl (vp_in_nI (by omega) (by omega)) d_LI_lay_39 ?_
      refine fm_tw (z := rw (j2)) (by rw [nI_clamp (by omega)]) ?_
      refine fm_tw (z := nI (r j2)) (hri) ?_
      refine fm_wv S (c_LI_push l dC dI q pa va na (((fm_row r rn).drop (j2 + 1) ++ fm_E2 B).length) co cI pd2 (nI (r j2)) (by omega)) rfl rfl k_LI_push q_3_49 ⟨Nat.le_of_ble_eq_true rfl, Nat.le_of_ble_eq_true rfl⟩ hP hD hS (hK.sub [0] rfl) [0, 1] (by decide) rfl 0 rfl rfl rfl hl.1 rfl (Nat.le_of_ble_eq_true rfl) ⟨Nat.zero_le _, Nat.zero_le _⟩ d_LI_lay_40 [(q, .inr (2, [.ref pa, .ref va, .ref na, .int (nI ((((fm_row r rn).drop (j2 + 1) ++ fm_E2 B).length) + 1)), .int (co)])), (pa, .inl (cI, 1066, .inl (upd pd2 (((fm_row r rn).drop (j2 + 1) ++ fm_E2 B).length) (nI (r j2))))), (ra, .inl (cI, 64, .inl (rw))), (o, .inr (1, [.ref wa, .ref sa, .ref la, .int (nI (fm_HF B 2)), .int (nI (fm_HF B 3)), .int (nI (s0)), .int (nI (fm_z s0)), .int (nI (fm_h s0))])), (wa, .inl (cI, 2048, .inl (w))), (sa, .inl (cI, 10, .inl (st))), (la, .inl (cI, 10, .inl (ln)))] [2, 3, 4, 5, 6] rfl rfl (show ∀ i, i < 7 → i ∈ ([0, 1] : List Nat) ∨ i ∈ ([2, 3, 4, 5, 6] : List Nat) by decide) (by decide) rfl (fun H locs hP hD hS => ?_)
      have hP : va_P (dC, dI) classes [(q, .inr (2, [.ref pa, .ref va, .ref na, .int (nI ((((fm_row r rn).drop (j2 + 1) ++ fm_E2 B).length) + 1)), .int (co)])), (pa, .inl (cI, 1066, .inl (upd pd2 (((fm_row r rn).drop (j2 + 1) ++ fm_E2 B).length) (nI (r j2))))), (ra, .inl (cI, 64, .inl (rw))), (o, .inr (1, [.ref wa, .ref sa, .ref la, .int (nI (fm_HF B 2)), .int (nI (fm_HF B 3)), .int (nI (s0)), .int (nI (fm_z s0)), .int (nI (fm_h s0))])), (wa, .inl (cI, 2048, .inl (w))), (sa, .inl (cI, 10, .inl (st))), (la, .inl (cI, 10, .inl (ln)))] _ := hP
      have hD : va_D A [(q, .inr (2, [.ref pa, .ref va, .ref na, .int (nI ((((fm_row r rn).drop (j2 + 1) ++ fm_E2 B).length) + 1)), .int (co)])), (pa, .inl (cI, 1066, .inl (upd pd2 (((fm_row r rn).drop (j2 + 1) ++ fm_E2 B).length) (nI (r j2))))), (ra, .inl (cI, 64, .inl (rw))), (o, .inr (1, [.ref wa, .ref sa, .ref la, .int (nI (fm_HF B 2)), .int (nI (fm_HF B 3)), .int (nI (s0)), .int (nI (fm_z s0)), .int (nI (fm_h s0))])), (wa, .inl (cI, 2048, .inl (w))), (sa, .inl (cI, 10, .inl (st))), (la, .inl (cI, 10, .inl (ln)))] := hD
      refine lv_iinc (v := (nI (j2) - nI 1)) (lv' := [(4, .int (nI (j2) - nI 1)), (0, .ref q), (1, .ref o), (2, .ref ra)]) hx hb d_LI_lay_43 hl (k := 3) rfl (fm_m1 _) (by decide) rfl (fun ls hl => ?_)
      refine lv_goto (tgt := 30) hx hb d_LI_lay_46 (by decide) ?_
      exact ih_30 j2 (upd pd2 (((fm_row r rn).drop (j2 + 1) ++ fm_E2 B).length) (nI (r j2))) H locs ls (⟨by omega, by rw [fm_row_drop r (j := j2) (n := rn) (by omega), List.cons_append]; exact fm_PD_push hPD (r j2)⟩) (by omega) (by rw [fm_row_drop r (j := j2) (n := rn) (by omega), List.cons_append, List.length_cons]; exact hP) (by rw [fm_row_drop r (j := j2) (n := rn) (by omega), List.cons_append, List.length_cons]; exact hD) hS (lv_sub hl [1, 2, 3, 0] rfl)
theorem d_FM_set_0 : decode b_FM_set 0 = .ok (.aload_n 0, 1) := by decide +kernel
theorem d_FM_set_1 : decode b_FM_set 1 = .ok (.invokevirtual 92, 3) := by decide +kernel
theorem d_FM_set_4 : decode b_FM_set 4 = .ok (.aload_n 0, 1) := by decide +kernel
theorem d_FM_set_5 : decode b_FM_set 5 = .ok (.getfield 19, 3) := by decide +kernel
theorem d_FM_set_8 : decode b_FM_set 8 = .ok (.invokevirtual 89, 3) := by decide +kernel
theorem d_FM_set_11 : decode b_FM_set 11 = .ok (.aload_n 0, 1) := by decide +kernel
theorem d_FM_set_12 : decode b_FM_set 12 = .ok (.invokevirtual 166, 3) := by decide +kernel
theorem d_FM_set_15 : decode b_FM_set 15 = .ok (.ifCond .ne 5, 3) := by decide +kernel
theorem d_FM_set_18 : decode b_FM_set 18 = .ok (.iconst (-1), 1) := by decide +kernel
theorem d_FM_set_19 : decode b_FM_set 19 = .ok (.ireturn, 1) := by decide +kernel
theorem d_FM_set_20 : decode b_FM_set 20 = .ok (.aload_n 0, 1) := by decide +kernel
theorem d_FM_set_21 : decode b_FM_set 21 = .ok (.getfield 19, 3) := by decide +kernel
theorem d_FM_set_24 : decode b_FM_set 24 = .ok (.aload_n 0, 1) := by decide +kernel
theorem d_FM_set_25 : decode b_FM_set 25 = .ok (.getfield 34, 3) := by decide +kernel
theorem d_FM_set_28 : decode b_FM_set 28 = .ok (.aload_n 0, 1) := by decide +kernel
theorem d_FM_set_29 : decode b_FM_set 29 = .ok (.getfield 23, 3) := by decide +kernel
theorem d_FM_set_32 : decode b_FM_set 32 = .ok (.aload_n 0, 1) := by decide +kernel
theorem d_FM_set_33 : decode b_FM_set 33 = .ok (.getfield 27, 3) := by decide +kernel
theorem d_FM_set_36 : decode b_FM_set 36 = .ok (.invokevirtual 170, 3) := by decide +kernel
theorem d_FM_set_39 : decode b_FM_set 39 = .ok (.aload_n 0, 1) := by decide +kernel
theorem d_FM_set_40 : decode b_FM_set 40 = .ok (.iconst 0, 1) := by decide +kernel
theorem d_FM_set_41 : decode b_FM_set 41 = .ok (.putfield 27, 3) := by decide +kernel
theorem d_FM_set_44 : decode b_FM_set 44 = .ok (.aload_n 0, 1) := by decide +kernel
theorem d_FM_set_45 : decode b_FM_set 45 = .ok (.getfield 19, 3) := by decide +kernel
theorem d_FM_set_48 : decode b_FM_set 48 = .ok (.aload_n 0, 1) := by decide +kernel
theorem d_FM_set_49 : decode b_FM_set 49 = .ok (.getfield 34, 3) := by decide +kernel
theorem d_FM_set_52 : decode b_FM_set 52 = .ok (.invokevirtual 174, 3) := by decide +kernel
theorem d_FM_set_55 : decode b_FM_set 55 = .ok (.ifCond .eq 13, 3) := by decide +kernel
theorem d_FM_set_58 : decode b_FM_set 58 = .ok (.aload_n 0, 1) := by decide +kernel
theorem d_FM_set_59 : decode b_FM_set 59 = .ok (.getfield 19, 3) := by decide +kernel
theorem d_FM_set_62 : decode b_FM_set 62 = .ok (.getfield 178, 3) := by decide +kernel
theorem d_FM_set_65 : decode b_FM_set 65 = .ok (.goto 5, 3) := by decide +kernel
theorem d_FM_set_68 : decode b_FM_set 68 = .ok (.bipush (-2), 2) := by decide +kernel
theorem d_FM_set_70 : decode b_FM_set 70 = .ok (.ireturn, 1) := by decide +kernel
set_option maxHeartbeats 4000000 in
set_option maxRecDepth 100000 in
theorem c_FM_setN (l : Launch) (dC : Nat → ClassId) (dI : Nat → Nat → Nat) (h : Nat) (bf : Nat) (li : Nat) (ra : Nat) (o : Nat) (sp : Nat) (pa : Nat) (va : Nat) (na : Nat) (le : Int32) (co : Int32) (rn : Nat) (rw : Nat → Int32) (r : Nat → Nat) (wa : Nat) (sa : Nat) (la : Nat) (s0 : Nat) (cI : ClassId) (B : Nat → Nat) (w : Nat → Int32) (st : Nat → Int32) (ln : Nat → Int32) (hF : fm_FO B w st ln) (hV : fm_V B) (hs : s0 < 134217728) (hrn : rn ≤ 64) (hrw : ∀ i, i < rn → rw i = nI (r i) ∧ r i ≤ 255) (hno : fm_all rn (fun i => fm_th B (r i)) = false) : fm_MW l (dC, dI) y_FM_set w_FM_set ({ frames := 4, cells := 0, slots := 0, locals := 86 }) [.ref h] [(h, .inr (3, [.ref bf, .ref li, .ref ra, .int (nI (rn)), .ref o, .ref sp, .int (nI (1))])), (ra, .inl (cI, 64, .inl (rw))), (li, .inr (2, [.ref pa, .ref va, .ref na, .int (le), .int (co)])), (o, .inr (1, [.ref wa, .ref sa, .ref la, .int (nI (fm_HF B 2)), .int (nI (fm_HF B 3)), .int (nI (s0)), .int (nI (fm_z s0)), .int (nI (fm_h s0))])), (wa, .inl (cI, 2048, .inl (w))), (sa, .inl (cI, 10, .inl (st))), (la, .inl (cI, 10, .inl (ln)))] [(h, .inr (3, [.ref bf, .ref li, .ref ra, .int (nI (rn)), .ref o, .ref sp, .int (nI (1))])), (ra, .inl (cI, 64, .inl (rw))), (li, .inr (2, [.ref pa, .ref va, .ref na, .int (nI (0)), .int (nI (0))])), (o, .inr (1, [.ref wa, .ref sa, .ref la, .int (nI (fm_HF B 2)), .int (nI (fm_HF B 3)), .int (nI (s0)), .int (nI (fm_z s0)), .int (nI (fm_h s0))])), (wa, .inl (cI, 2048, .inl (w))), (sa, .inl (cI, 10, .inl (st))), (la, .inl (cI, 10, .inl (ln)))] [(cI, .int)] (some (.int ((-1)))) := by
  refine Met.ofW (cc := b_FM_set) (maxL := 1) (ret := (some .int)) (by decide) rfl ?_
  intro pg ev s m args below meth cd s₁ BD hml hv
  obtain ⟨rfl, hP, hK, hD0⟩ := hv
  have hx := BD.exec
  have hb := BD.bytes
  have hr := BD.returns
  have hts := atoms_spec (ws := w_FM_set) BD.pre
  have ht : ∀ w ∈ fm_T, w.before _ s = true := fun w h => hts w (List.mem_cons_of_mem _ h)
  have hown : s.vm.findClass R_FM = some m.cls := findClass_of_methodNamed BD.named
  have hlocks := BD.notSynchronized
  have S : CallFix pg m cd b_FM_set 1 s _ w_FM_set R_FM := ⟨hx, hb, hml, hown, hts⟩
  have hD := fm_selfD hD0
  generalize fm_A [(h, .inr (3, [.ref bf, .ref li, .ref ra, .int (nI (rn)), .ref o, .ref sp, .int (nI (1))])), (ra, .inl (cI, 64, .inl (rw))), (li, .inr (2, [.ref pa, .ref va, .ref na, .int (le), .int (co)])), (o, .inr (1, [.ref wa, .ref sa, .ref la, .int (nI (fm_HF B 2)), .int (nI (fm_HF B 3)), .int (nI (s0)), .int (nI (fm_z s0)), .int (nI (fm_h s0))])), (wa, .inl (cI, 2048, .inl (w))), (sa, .inl (cI, 10, .inl (st))), (la, .inl (cI, 10, .inl (ln)))] = A at hD ⊢
  have hS : va_S A s.heap s.heap [] := va_S.rf
  have hl := lv_entry ([.ref h]) (n := 1) (Nat.le_of_ble_eq_true rfl)
  rw [lg_entry_eq]
  generalize (lg_sl ([.ref h]) ++ List.replicate (1 - (lg_sl ([.ref h])).length) Slot.unset).toArray = ls at hl ⊢
  have hl : lv_has ls 1 [(0, .ref h)] := hl
  refine lv_aload_n hx hb d_FM_set_0 rfl (lv_at hl 0 rfl) ?_
  refine fm_cnv S (c_FM_requireFont l dC dI h bf li ra (nI (rn)) o sp ) rfl rfl k_FM_requireFont q_2_152 ⟨Nat.le_of_ble_eq_true rfl, Nat.le_of_ble_eq_true rfl⟩ (hP.sub [0] rfl) (hK.sub [] rfl) 0 rfl rfl rfl hl.1 rfl (Nat.le_of_ble_eq_true rfl) ⟨Nat.zero_le _, Nat.zero_le _⟩ d_FM_set_1 ?_
  refine lv_aload_n hx hb d_FM_set_4 rfl (lv_at hl 0 rfl) ?_
  refine va_get (D := (dC, dI)) (ci := 3) (v := .ref li) (C := R_FM) (T := F_FM) (N := 7) hx hb ht i_FM hown hK hP 0 rfl rfl 1 (by decide) (ht _ q_1_100) (fun _ h9 => h9) rfl d_FM_set_5 ?_
  refine fm_wv S (c_LI_clear l dC dI li pa va na le co ) rfl rfl k_LI_clear q_2_139 ⟨Nat.le_of_ble_eq_true rfl, Nat.le_of_ble_eq_true rfl⟩ hP hD hS (hK.sub [] rfl) [2] (by decide) rfl 0 rfl rfl rfl hl.1 rfl (Nat.le_of_ble_eq_true rfl) ⟨Nat.zero_le _, Nat.zero_le _⟩ d_FM_set_8 [(h, .inr (3, [.ref bf, .ref li, .ref ra, .int (nI (rn)), .ref o, .ref sp, .int (nI (1))])), (ra, .inl (cI, 64, .inl (rw))), (li, .inr (2, [.ref pa, .ref va, .ref na, .int (nI (0)), .int (nI (0))])), (o, .inr (1, [.ref wa, .ref sa, .ref la, .int (nI (fm_HF B 2)), .int (nI (fm_HF B 3)), .int (nI (s0)), .int (nI (fm_z s0)), .int (nI (fm_h s0))])), (wa, .inl (cI, 2048, .inl (w))), (sa, .inl (cI, 10, .inl (st))), (la, .inl (cI, 10, .inl (ln)))] [0, 1, 3, 4, 5, 6] rfl rfl (show ∀ i, i < 7 → i ∈ ([2] : List Nat) ∨ i ∈ ([0, 1, 3, 4, 5, 6] : List Nat) by decide) (by decide) rfl (fun H locs hP hD hS => ?_)
  have hP : va_P (dC, dI) classes [(h, .inr (3, [.ref bf, .ref li, .ref ra, .int (nI (rn)), .ref o, .ref sp, .int (nI (1))])), (ra, .inl (cI, 64, .inl (rw))), (li, .inr (2, [.ref pa, .ref va, .ref na, .int (nI (0)), .int (nI (0))])), (o, .inr (1, [.ref wa, .ref sa, .ref la, .int (nI (fm_HF B 2)), .int (nI (fm_HF B 3)), .int (nI (s0)), .int (nI (fm_z s0)), .int (nI (fm_h s0))])), (wa, .inl (cI, 2048, .inl (w))), (sa, .inl (cI, 10, .inl (st))), (la, .inl (cI, 10, .inl (ln)))] _ := hP
  have hD : va_D A [(h, .inr (3, [.ref bf, .ref li, .ref ra, .int (nI (rn)), .ref o, .ref sp, .int (nI (1))])), (ra, .inl (cI, 64, .inl (rw))), (li, .inr (2, [.ref pa, .ref va, .ref na, .int (nI (0)), .int (nI (0))])), (o, .inr (1, [.ref wa, .ref sa, .ref la, .int (nI (fm_HF B 2)), .int (nI (fm_HF B 3)), .int (nI (s0)), .int (nI (fm_z s0)), .int (nI (fm_h s0))])), (wa, .inl (cI, 2048, .inl (w))), (sa, .inl (cI, 10, .inl (st))), (la, .inl (cI, 10, .inl (ln)))] := hD
  refine lv_aload_n hx hb d_FM_set_11 rfl (lv_at hl 0 rfl) ?_
  refine fm_cv S (c_FM_rowIsThere l dC dI h bf li ra o sp (nI (1)) wa sa la s0 cI B w st ln rn rw r (hF) (by omega) (hrw)) rfl rfl k_FM_rowIsThere q_3_40 ⟨Nat.le_of_ble_eq_true rfl, Nat.le_of_ble_eq_true rfl⟩ (hP.sub [0, 1, 3, 4, 5, 6] rfl) (hK.sub [0] rfl) 0 rfl rfl rfl hl.1 rfl (Nat.le_of_ble_eq_true rfl) ⟨Nat.zero_le _, Nat.zero_le _⟩ d_FM_set_12 ?_
  refine lv_if_ne (tgt := 20) hx hb d_FM_set_15 (by decide) (fun c0 => ?_) (fun c0 => ?_)
  · have c_15 : (fm_all rn (fun i => fm_th B (r i))) = true := fm_bI_t c0
    exact absurd c_15 (by rw [hno]; decide)
  · have c_15 : (fm_all rn (fun i => fm_th B (r i))) = false := fm_bI_f c0
    refine lv_iconst (v := ((-1))) hx hb d_FM_set_18 (by decide) ?_
    exact W.iret hx hb hr (fun t ht hW => ⟨congrArg (fun z => Outcome.returned (some (Value.int z))) (rfl), by rw [ht]; exact hP, hS.F ht⟩) hS.2.2 d_FM_set_19
set_option maxHeartbeats 4000000 in
set_option maxRecDepth 100000 in
theorem c_FM_setY (l : Launch) (dC : Nat → ClassId) (dI : Nat → Nat → Nat) (h : Nat) (bf : Nat) (li : Nat) (ra : Nat) (o : Nat) (sp : Nat) (pa : Nat) (va : Nat) (na : Nat) (le : Int32) (co : Int32) (rn : Nat) (rw : Nat → Int32) (r : Nat → Nat) (wa : Nat) (sa : Nat) (la : Nat) (s0 : Nat) (cI : ClassId) (B : Nat → Nat) (w : Nat → Int32) (st : Nat → Int32) (ln : Nat → Int32) (cZ : ClassId) (pd : Nat → Int32) (vl : Nat → Int32) (kn : Nat → Int32) (hF : fm_FO B w st ln) (hV : fm_V B) (hs : s0 < 134217728) (hrn : rn ≤ 64) (hrw : ∀ i, i < rn → rw i = nI (r i) ∧ r i ≤ 255) (hyes : fm_all rn (fun i => fm_th B (r i)) = true) : fm_MX (S := (Nat → Int32) × (Nat → Int32) × (Nat → Int32)) l (dC, dI) y_FM_set w_FM_set ({ frames := 6, cells := 0, slots := 0, locals := 142 }) [.ref h] [(h, .inr (3, [.ref bf, .ref li, .ref ra, .int (nI (rn)), .ref o, .ref sp, .int (nI (1))])), (ra, .inl (cI, 64, .inl (rw))), (li, .inr (2, [.ref pa, .ref va, .ref na, .int (le), .int (co)])), (pa, .inl (cI, 1066, .inl (pd))), (va, .inl (cI, 1066, .inl (vl))), (na, .inl (cZ, 1066, .inl (kn))), (o, .inr (1, [.ref wa, .ref sa, .ref la, .int (nI (fm_HF B 2)), .int (nI (fm_HF B 3)), .int (nI (s0)), .int (nI (fm_z s0)), .int (nI (fm_h s0))])), (wa, .inl (cI, 2048, .inl (w))), (sa, .inl (cI, 10, .inl (st))), (la, .inl (cI, 10, .inl (ln)))] [(cI, .int), (cZ, .boolean)] (fun u => ∀ L, (fm_set B s0 (fm_T0 B r rn)) = some L → fm_CL u.2.1 u.2.2 L) (fun u => (some (.int (fm_sR (fm_set B s0 (fm_T0 B r rn)))))) (fun u => [(h, .inr (3, [.ref bf, .ref li, .ref ra, .int (nI (0)), .ref o, .ref sp, .int (nI (1))])), (ra, .inl (cI, 64, .inl (rw))), (li, .inr (2, [.ref pa, .ref va, .ref na, .int (nI (0)), .int (nI (fm_sN (fm_set B s0 (fm_T0 B r rn))))])), (pa, .inl (cI, 1066, .inl (u.1))), (va, .inl (cI, 1066, .inl (u.2.1))), (na, .inl (cZ, 1066, .inl (u.2.2))), (o, .inr (1, [.ref wa, .ref sa, .ref la, .int (nI (fm_HF B 2)), .int (nI (fm_HF B 3)), .int (nI (s0)), .int (nI (fm_z s0)), .int (nI (fm_h s0))])), (wa, .inl (cI, 2048, .inl (w))), (sa, .inl (cI, 10, .inl (st))), (la, .inl (cI, 10, .inl (ln)))]) := by
  refine Met.ofW (cc := b_FM_set) (maxL := 1) (ret := (some .int)) (by decide) rfl ?_
  intro pg ev s m args below meth cd s₁ BD hml hv
  obtain ⟨rfl, hP, hK, hD0⟩ := hv
  have hx := BD.exec
  have hb := BD.bytes
  have hr := BD.returns
  have hts := atoms_spec (ws := w_FM_set) BD.pre
  have ht : ∀ w ∈ fm_T, w.before _ s = true := fun w h => hts w (List.mem_cons_of_mem _ h)
  have hown : s.vm.findClass R_FM = some m.cls := findClass_of_methodNamed BD.named
  have hlocks := BD.notSynchronized
  have S : CallFix pg m cd b_FM_set 1 s _ w_FM_set R_FM := ⟨hx, hb, hml, hown, hts⟩
  have hD := fm_selfD hD0
  generalize fm_A [(h, .inr (3, [.ref bf, .ref li, .ref ra, .int (nI (rn)), .ref o, .ref sp, .int (nI (1))])), (ra, .inl (cI, 64, .inl (rw))), (li, .inr (2, [.ref pa, .ref va, .ref na, .int (le), .int (co)])), (pa, .inl (cI, 1066, .inl (pd))), (va, .inl (cI, 1066, .inl (vl))), (na, .inl (cZ, 1066, .inl (kn))), (o, .inr (1, [.ref wa, .ref sa, .ref la, .int (nI (fm_HF B 2)), .int (nI (fm_HF B 3)), .int (nI (s0)), .int (nI (fm_z s0)), .int (nI (fm_h s0))])), (wa, .inl (cI, 2048, .inl (w))), (sa, .inl (cI, 10, .inl (st))), (la, .inl (cI, 10, .inl (ln)))] = A at hD ⊢
  have hS : va_S A s.heap s.heap [] := va_S.rf
  have hl := lv_entry ([.ref h]) (n := 1) (Nat.le_of_ble_eq_true rfl)
  rw [lg_entry_eq]
  generalize (lg_sl ([.ref h]) ++ List.replicate (1 - (lg_sl ([.ref h])).length) Slot.unset).toArray = ls at hl ⊢
  have hl : lv_has ls 1 [(0, .ref h)] := hl
  have hB : ∀ i, B i < 256 := hF.1.1
  obtain ⟨hL, hFw, hFs, hFl⟩ := id hF
  obtain ⟨-, hq, h3, h10⟩ := id hL
  have hE1l := fm_E1_len B
  have hE2l := fm_E2_len B
  have hTl : (fm_T0 B r rn).length ≤ 66 := by unfold fm_T0; rw [List.length_append, List.length_append, fm_row_len]; omega
  refine lv_aload_n hx hb d_FM_set_0 rfl (lv_at hl 0 rfl) ?_
  refine fm_cnv S (c_FM_requireFont l dC dI h bf li ra (nI (rn)) o sp ) rfl rfl k_FM_requireFont q_2_152 ⟨Nat.le_of_ble_eq_true rfl, Nat.le_of_ble_eq_true rfl⟩ (hP.sub [0] rfl) (hK.sub [] rfl) 0 rfl rfl rfl hl.1 rfl (Nat.le_of_ble_eq_true rfl) ⟨Nat.zero_le _, Nat.zero_le _⟩ d_FM_set_1 ?_
  refine lv_aload_n hx hb d_FM_set_4 rfl (lv_at hl 0 rfl) ?_
  refine va_get (D := (dC, dI)) (ci := 3) (v := .ref li) (C := R_FM) (T := F_FM) (N := 7) hx hb ht i_FM hown hK hP 0 rfl rfl 1 (by decide) (ht _ q_1_100) (fun _ h9 => h9) rfl d_FM_set_5 ?_
  refine fm_wv S (c_LI_clear l dC dI li pa va na le co ) rfl rfl k_LI_clear q_2_139 ⟨Nat.le_of_ble_eq_true rfl, Nat.le_of_ble_eq_true rfl⟩ hP hD hS (hK.sub [] rfl) [2] (by decide) rfl 0 rfl rfl rfl hl.1 rfl (Nat.le_of_ble_eq_true rfl) ⟨Nat.zero_le _, Nat.zero_le _⟩ d_FM_set_8 [(h, .inr (3, [.ref bf, .ref li, .ref ra, .int (nI (rn)), .ref o, .ref sp, .int (nI (1))])), (ra, .inl (cI, 64, .inl (rw))), (li, .inr (2, [.ref pa, .ref va, .ref na, .int (nI (0)), .int (nI (0))])), (pa, .inl (cI, 1066, .inl (pd))), (va, .inl (cI, 1066, .inl (vl))), (na, .inl (cZ, 1066, .inl (kn))), (o, .inr (1, [.ref wa, .ref sa, .ref la, .int (nI (fm_HF B 2)), .int (nI (fm_HF B 3)), .int (nI (s0)), .int (nI (fm_z s0)), .int (nI (fm_h s0))])), (wa, .inl (cI, 2048, .inl (w))), (sa, .inl (cI, 10, .inl (st))), (la, .inl (cI, 10, .inl (ln)))] [0, 1, 3, 4, 5, 6, 7, 8, 9] rfl rfl (show ∀ i, i < 10 → i ∈ ([2] : List Nat) ∨ i ∈ ([0, 1, 3, 4, 5, 6, 7, 8, 9] : List Nat) by decide) (by decide) rfl (fun H locs hP hD hS => ?_)
  have hP : va_P (dC, dI) classes [(h, .inr (3, [.ref bf, .ref li, .ref ra, .int (nI (rn)), .ref o, .ref sp, .int (nI (1))])), (ra, .inl (cI, 64, .inl (rw))), (li, .inr (2, [.ref pa, .ref va, .ref na, .int (nI (0)), .int (nI (0))])), (pa, .inl (cI, 1066, .inl (pd))), (va, .inl (cI, 1066, .inl (vl))), (na, .inl (cZ, 1066, .inl (kn))), (o, .inr (1, [.ref wa, .ref sa, .ref la, .int (nI (fm_HF B 2)), .int (nI (fm_HF B 3)), .int (nI (s0)), .int (nI (fm_z s0)), .int (nI (fm_h s0))])), (wa, .inl (cI, 2048, .inl (w))), (sa, .inl (cI, 10, .inl (st))), (la, .inl (cI, 10, .inl (ln)))] _ := hP
  have hD : va_D A [(h, .inr (3, [.ref bf, .ref li, .ref ra, .int (nI (rn)), .ref o, .ref sp, .int (nI (1))])), (ra, .inl (cI, 64, .inl (rw))), (li, .inr (2, [.ref pa, .ref va, .ref na, .int (nI (0)), .int (nI (0))])), (pa, .inl (cI, 1066, .inl (pd))), (va, .inl (cI, 1066, .inl (vl))), (na, .inl (cZ, 1066, .inl (kn))), (o, .inr (1, [.ref wa, .ref sa, .ref la, .int (nI (fm_HF B 2)), .int (nI (fm_HF B 3)), .int (nI (s0)), .int (nI (fm_z s0)), .int (nI (fm_h s0))])), (wa, .inl (cI, 2048, .inl (w))), (sa, .inl (cI, 10, .inl (st))), (la, .inl (cI, 10, .inl (ln)))] := hD
  refine lv_aload_n hx hb d_FM_set_11 rfl (lv_at hl 0 rfl) ?_
  refine fm_cv S (c_FM_rowIsThere l dC dI h bf li ra o sp (nI (1)) wa sa la s0 cI B w st ln rn rw r (hF) (by omega) (hrw)) rfl rfl k_FM_rowIsThere q_3_40 ⟨Nat.le_of_ble_eq_true rfl, Nat.le_of_ble_eq_true rfl⟩ (hP.sub [0, 1, 6, 7, 8, 9] rfl) (hK.sub [0] rfl) 0 rfl rfl rfl hl.1 rfl (Nat.le_of_ble_eq_true rfl) ⟨Nat.zero_le _, Nat.zero_le _⟩ d_FM_set_12 ?_
  refine lv_if_ne (tgt := 20) hx hb d_FM_set_15 (by decide) (fun c0 => ?_) (fun c0 => ?_)
  · have c_15 : (fm_all rn (fun i => fm_th B (r i))) = true := fm_bI_t c0
    refine lv_aload_n hx hb d_FM_set_20 rfl (lv_at hl 0 rfl) ?_
    refine va_get (D := (dC, dI)) (ci := 3) (v := .ref li) (C := R_FM) (T := F_FM) (N := 7) hx hb ht i_FM hown hK hP 0 rfl rfl 1 (by decide) (ht _ q_1_100) (fun _ h9 => h9) rfl d_FM_set_21 ?_
    refine lv_aload_n hx hb d_FM_set_24 rfl (lv_at hl 0 rfl) ?_
    refine va_get (D := (dC, dI)) (ci := 3) (v := .ref o) (C := R_FM) (T := F_FM) (N := 7) hx hb ht i_FM hown hK hP 0 rfl rfl 4 (by decide) (ht _ q_1_103) (fun _ h9 => h9) rfl d_FM_set_25 ?_
    refine lv_aload_n hx hb d_FM_set_28 rfl (lv_at hl 0 rfl) ?_
    refine va_get (D := (dC, dI)) (ci := 3) (v := .ref ra) (C := R_FM) (T := F_FM) (N := 7) hx hb ht i_FM hown hK hP 0 rfl rfl 2 (by decide) (ht _ q_1_101) (fun _ h9 => h9) rfl d_FM_set_29 ?_
    refine lv_aload_n hx hb d_FM_set_32 rfl (lv_at hl 0 rfl) ?_
    refine va_get (D := (dC, dI)) (ci := 3) (v := .int (nI (rn))) (C := R_FM) (T := F_FM) (N := 7) hx hb ht i_FM hown hK hP 0 rfl rfl 3 (by decide) (ht _ q_1_102) (fun _ h9 => h9) rfl d_FM_set_33 ?_
    refine fm_xv S (c_LI_lay l dC dI li pa va na (nI (0)) (nI (0)) cI pd ra rn rw r o wa sa la s0 B w st ln (hF) (by omega) (hrw)) rfl rfl k_LI_lay q_3_44 ⟨Nat.le_of_ble_eq_true rfl, Nat.le_of_ble_eq_true rfl⟩ hP hD hS (hK.sub [0] rfl) [2, 3, 1, 6, 7, 8, 9] (by decide) rfl 0 rfl rfl rfl hl.1 rfl (Nat.le_of_ble_eq_true rfl) ⟨Nat.zero_le _, Nat.zero_le _⟩ d_FM_set_36 (fun u => [(h, .inr (3, [.ref bf, .ref li, .ref ra, .int (nI (rn)), .ref o, .ref sp, .int (nI (1))])), (ra, .inl (cI, 64, .inl (rw))), (li, .inr (2, [.ref pa, .ref va, .ref na, .int (nI ((fm_T0 B r rn).length)), .int (nI (0))])), (pa, .inl (cI, 1066, .inl (u))), (va, .inl (cI, 1066, .inl (vl))), (na, .inl (cZ, 1066, .inl (kn))), (o, .inr (1, [.ref wa, .ref sa, .ref la, .int (nI (fm_HF B 2)), .int (nI (fm_HF B 3)), .int (nI (s0)), .int (nI (fm_z s0)), .int (nI (fm_h s0))])), (wa, .inl (cI, 2048, .inl (w))), (sa, .inl (cI, 10, .inl (st))), (la, .inl (cI, 10, .inl (ln)))]) [0, 4, 5] (fun _ => rfl) (fun _ => rfl) (fun _ => show ∀ i, i < 10 → i ∈ ([2, 3, 1, 6, 7, 8, 9] : List Nat) ∨ i ∈ ([0, 4, 5] : List Nat) by decide) (by decide) (fun _ => rfl) (fun u hu H locs hP hD hS => ?_)
    obtain ⟨pd1, rfl⟩ : ∃ z, z = u := ⟨_, rfl⟩
    have hu_36 : fm_PD pd1 (fm_T0 B r rn) := hu
    have hP : va_P (dC, dI) classes [(h, .inr (3, [.ref bf, .ref li, .ref ra, .int (nI (rn)), .ref o, .ref sp, .int (nI (1))])), (ra, .inl (cI, 64, .inl (rw))), (li, .inr (2, [.ref pa, .ref va, .ref na, .int (nI ((fm_T0 B r rn).length)), .int (nI (0))])), (pa, .inl (cI, 1066, .inl (pd1))), (va, .inl (cI, 1066, .inl (vl))), (na, .inl (cZ, 1066, .inl (kn))), (o, .inr (1, [.ref wa, .ref sa, .ref la, .int (nI (fm_HF B 2)), .int (nI (fm_HF B 3)), .int (nI (s0)), .int (nI (fm_z s0)), .int (nI (fm_h s0))])), (wa, .inl (cI, 2048, .inl (w))), (sa, .inl (cI, 10, .inl (st))), (la, .inl (cI, 10, .inl (ln)))] _ := hP
    have hD : va_D A [(h, .inr (3, [.ref bf, .ref li, .ref ra, .int (nI (rn)), .ref o, .ref sp, .int (nI (1))])), (ra, .inl (cI, 64, .inl (rw))), (li, .inr (2, [.ref pa, .ref va, .ref na, .int (nI ((fm_T0 B r rn).length)), .int (nI (0))])), (pa, .inl (cI, 1066, .inl (pd1))), (va, .inl (cI, 1066, .inl (vl))), (na, .inl (cZ, 1066, .inl (kn))), (o, .inr (1, [.ref wa, .ref sa, .ref la, .int (nI (fm_HF B 2)), .int (nI (fm_HF B 3)), .int (nI (s0)), .int (nI (fm_z s0)), .int (nI (fm_h s0))])), (wa, .inl (cI, 2048, .inl (w))), (sa, .inl (cI, 10, .inl (st))), (la, .inl (cI, 10, .inl (ln)))] := hD
    refine lv_aload_n hx hb d_FM_set_39 rfl (lv_at hl 0 rfl) ?_
    refine lv_iconst (v := nI (0)) hx hb d_FM_set_40 (by decide) ?_
    refine va_put (D := (dC, dI)) (ci := 3) (v := .int (nI (0))) (ty := .int) (C := R_FM) (T := F_FM) (N := 7) hx hb ht i_FM t_FM t_FM_ok n_FM hown hK hP hD hS 0 rfl rfl 3 (by decide) (ht _ q_1_102) (fun _ h9 => h9) rfl (by decide +kernel) (rfl) (rfl) (Nat.le_of_ble_eq_true rfl) d_FM_set_41 (fun H locs hP hD hS => ?_)
    have hP : va_P (dC, dI) classes [(h, .inr (3, [.ref bf, .ref li, .ref ra, .int (nI (0)), .ref o, .ref sp, .int (nI (1))])), (ra, .inl (cI, 64, .inl (rw))), (li, .inr (2, [.ref pa, .ref va, .ref na, .int (nI ((fm_T0 B r rn).length)), .int (nI (0))])), (pa, .inl (cI, 1066, .inl (pd1))), (va, .inl (cI, 1066, .inl (vl))), (na, .inl (cZ, 1066, .inl (kn))), (o, .inr (1, [.ref wa, .ref sa, .ref la, .int (nI (fm_HF B 2)), .int (nI (fm_HF B 3)), .int (nI (s0)), .int (nI (fm_z s0)), .int (nI (fm_h s0))])), (wa, .inl (cI, 2048, .inl (w))), (sa, .inl (cI, 10, .inl (st))), (la, .inl (cI, 10, .inl (ln)))] _ := hP
    have hD : va_D A [(h, .inr (3, [.ref bf, .ref li, .ref ra, .int (nI (0)), .ref o, .ref sp, .int (nI (1))])), (ra, .inl (cI, 64, .inl (rw))), (li, .inr (2, [.ref pa, .ref va, .ref na, .int (nI ((fm_T0 B r rn).length)), .int (nI (0))])), (pa, .inl (cI, 1066, .inl (pd1))), (va, .inl (cI, 1066, .inl (vl))), (na, .inl (cZ, 1066, .inl (kn))), (o, .inr (1, [.ref wa, .ref sa, .ref la, .int (nI (fm_HF B 2)), .int (nI (fm_HF B 3)), .int (nI (s0)), .int (nI (fm_z s0)), .int (nI (fm_h s0))])), (wa, .inl (cI, 2048, .inl (w))), (sa, .inl (cI, 10, .inl (st))), (la, .inl (cI, 10, .inl (ln)))] := hD
    refine lv_aload_n hx hb d_FM_set_44 rfl (lv_at hl 0 rfl) ?_
    refine va_get (D := (dC, dI)) (ci := 3) (v := .ref li) (C := R_FM) (T := F_FM) (N := 7) hx hb ht i_FM hown hK hP 0 rfl rfl 1 (by decide) (ht _ q_1_100) (fun _ h9 => h9) rfl d_FM_set_45 ?_
    refine lv_aload_n hx hb d_FM_set_48 rfl (lv_at hl 0 rfl) ?_
    refine va_get (D := (dC, dI)) (ci := 3) (v := .ref o) (C := R_FM) (T := F_FM) (N := 7) hx hb ht i_FM hown hK hP 0 rfl rfl 4 (by decide) (ht _ q_1_103) (fun _ h9 => h9) rfl d_FM_set_49 ?_
    refine fm_xv S (c_LI_run l dC dI li pa va na ((fm_T0 B r rn).length) 0 cI cZ pd1 vl kn ((fm_T0 B r rn)) o wa sa la s0 B w st ln (hF) (hV) (hs) (hu_36) (rfl) (rfl) (hTl) (fm_T0_ok hyes)) rfl rfl k_LI_run q_3_55 ⟨Nat.le_of_ble_eq_true rfl, Nat.le_of_ble_eq_true rfl⟩ hP hD hS (hK.sub [0, 1] rfl) [2, 3, 4, 5, 6, 7, 8, 9] (by decide) rfl 0 rfl rfl rfl hl.1 rfl (Nat.le_of_ble_eq_true rfl) ⟨Nat.zero_le _, Nat.zero_le _⟩ d_FM_set_52 (fun u => [(h, .inr (3, [.ref bf, .ref li, .ref ra, .int (nI (0)), .ref o, .ref sp, .int (nI (1))])), (ra, .inl (cI, 64, .inl (rw))), (li, .inr (2, [.ref pa, .ref va, .ref na, .int (nI (0)), .int (nI (fm_sN (fm_set B s0 ((fm_T0 B r rn)))))])), (pa, .inl (cI, 1066, .inl (u.1))), (va, .inl (cI, 1066, .inl (u.2.1))), (na, .inl (cZ, 1066, .inl (u.2.2))), (o, .inr (1, [.ref wa, .ref sa, .ref la, .int (nI (fm_HF B 2)), .int (nI (fm_HF B 3)), .int (nI (s0)), .int (nI (fm_z s0)), .int (nI (fm_h s0))])), (wa, .inl (cI, 2048, .inl (w))), (sa, .inl (cI, 10, .inl (st))), (la, .inl (cI, 10, .inl (ln)))]) [0, 1] (fun _ => rfl) (fun _ => rfl) (fun _ => show ∀ i, i < 10 → i ∈ ([2, 3, 4, 5, 6, 7, 8, 9] : List Nat) ∨ i ∈ ([0, 1] : List Nat) by decide) (by decide) (fun _ => rfl) (fun u hu H locs hP hD hS => ?_)
    obtain ⟨pd2, vl2, kn2⟩ := u
    have hu_52 : ∀ L, (fm_set B s0 ((fm_T0 B r rn))) = some L → fm_CL vl2 kn2 L := hu
    have hP : va_P (dC, dI) classes [(h, .inr (3, [.ref bf, .ref li, .ref ra, .int (nI (0)), .ref o, .ref sp, .int (nI (1))])), (ra, .inl (cI, 64, .inl (rw))), (li, .inr (2, [.ref pa, .ref va, .ref na, .int (nI (0)), .int (nI (fm_sN (fm_set B s0 ((fm_T0 B r rn)))))])), (pa, .inl (cI, 1066, .inl (pd2))), (va, .inl (cI, 1066, .inl (vl2))), (na, .inl (cZ, 1066, .inl (kn2))), (o, .inr (1, [.ref wa, .ref sa, .ref la, .int (nI (fm_HF B 2)), .int (nI (fm_HF B 3)), .int (nI (s0)), .int (nI (fm_z s0)), .int (nI (fm_h s0))])), (wa, .inl (cI, 2048, .inl (w))), (sa, .inl (cI, 10, .inl (st))), (la, .inl (cI, 10, .inl (ln)))] _ := hP
    have hD : va_D A [(h, .inr (3, [.ref bf, .ref li, .ref ra, .int (nI (0)), .ref o, .ref sp, .int (nI (1))])), (ra, .inl (cI, 64, .inl (rw))), (li, .inr (2, [.ref pa, .ref va, .ref na, .int (nI (0)), .int (nI (fm_sN (fm_set B s0 ((fm_T0 B r rn)))))])), (pa, .inl (cI, 1066, .inl (pd2))), (va, .inl (cI, 1066, .inl (vl2))), (na, .inl (cZ, 1066, .inl (kn2))), (o, .inr (1, [.ref wa, .ref sa, .ref la, .int (nI (fm_HF B 2)), .int (nI (fm_HF B 3)), .int (nI (s0)), .int (nI (fm_z s0)), .int (nI (fm_h s0))])), (wa, .inl (cI, 2048, .inl (w))), (sa, .inl (cI, 10, .inl (st))), (la, .inl (cI, 10, .inl (ln)))] := hD
    refine lv_if_eq (tgt := 68) hx hb d_FM_set_55 (by decide) (fun c0 => ?_) (fun c0 => ?_)
    · have c_55 : ((fm_set B s0 ((fm_T0 B r rn)))).isSome = false := fm_bI_f c0
      have hsn : (fm_set B s0 (fm_T0 B r rn)) = none := Option.isNone_iff_eq_none.mp (by rw [← Option.not_isSome, c_55]; rfl)
      refine lv_bipush (v := ((-2))) hx hb d_FM_set_68 (by decide) ?_
      exact W.iret hx hb hr (fun t ht hW => ⟨(pd2, vl2, kn2), (hu_52), congrArg (fun z => Outcome.returned (some (Value.int z))) (by first | (rw [hsn]; rfl) | (rw [hLS]; rfl)), by rw [ht]; exact hP, hS.F ht⟩) hS.2.2 d_FM_set_70
    · have c_55 : ((fm_set B s0 ((fm_T0 B r rn)))).isSome = true := fm_bI_t c0
      obtain ⟨LS, hLS⟩ := Option.isSome_iff_exists.mp c_55
      refine lv_aload_n hx hb d_FM_set_58 rfl (lv_at hl 0 rfl) ?_
      refine va_get (D := (dC, dI)) (ci := 3) (v := .ref li) (C := R_FM) (T := F_FM) (N := 7) hx hb ht i_FM hown hK hP 0 rfl rfl 1 (by decide) (ht _ q_1_100) (fun _ h9 => h9) rfl d_FM_set_59 ?_
      refine va_get (D := (dC, dI)) (ci := 2) (v := .int (nI (fm_sN (fm_set B s0 ((fm_T0 B r rn)))))) (C := R_LI) (T := F_LI) (N := 5) hx hb ht i_LI hown hK hP 2 rfl rfl 4 (by decide) (ht _ q_1_50) (fun _ h9 => h9) rfl d_FM_set_62 ?_
      refine lv_goto (tgt := 70) hx hb d_FM_set_65 (by decide) ?_
      exact W.iret hx hb hr (fun t ht hW => ⟨(pd2, vl2, kn2), (hu_52), congrArg (fun z => Outcome.returned (some (Value.int z))) (by first | (rw [hsn]; rfl) | (rw [hLS]; rfl)), by rw [ht]; exact hP, hS.F ht⟩) hS.2.2 d_FM_set_70
  · have c_15 : (fm_all rn (fun i => fm_th B (r i))) = false := fm_bI_f c0
    exact absurd c_15 (by rw [hyes]; decide)
theorem d_FM_load_0 : decode b_FM_load 0 = .ok (.iload_n 1, 1) := by decide +kernel
theorem d_FM_load_1 : decode b_FM_load 1 = .ok (.ifCond .lt 9, 3) := by decide +kernel
theorem d_FM_load_4 : decode b_FM_load 4 = .ok (.iload_n 1, 1) := by decide +kernel
theorem d_FM_load_5 : decode b_FM_load 5 = .ok (.ldc 53, 2) := by decide +kernel
theorem d_FM_load_7 : decode b_FM_load 7 = .ok (.if_icmp .le 13, 3) := by decide +kernel
theorem d_FM_load_10 : decode b_FM_load 10 = .ok (.new 54, 3) := by decide +kernel
theorem d_FM_load_13 : decode b_FM_load 13 = .ok (.dup, 1) := by decide +kernel
theorem d_FM_load_14 : decode b_FM_load 14 = .ok (.ldc 56, 2) := by decide +kernel
theorem d_FM_load_16 : decode b_FM_load 16 = .ok (.invokespecial 58, 3) := by decide +kernel
theorem d_FM_load_19 : decode b_FM_load 19 = .ok (.athrow, 1) := by decide +kernel
theorem d_FM_load_20 : decode b_FM_load 20 = .ok (.aload_n 0, 1) := by decide +kernel
theorem d_FM_load_21 : decode b_FM_load 21 = .ok (.getfield 38, 3) := by decide +kernel
theorem d_FM_load_24 : decode b_FM_load 24 = .ok (.aload_n 0, 1) := by decide +kernel
theorem d_FM_load_25 : decode b_FM_load 25 = .ok (.getfield 10, 3) := by decide +kernel
theorem d_FM_load_28 : decode b_FM_load 28 = .ok (.getfield 61, 3) := by decide +kernel
theorem d_FM_load_31 : decode b_FM_load 31 = .ok (.invokevirtual 64, 3) := by decide +kernel
theorem d_FM_load_34 : decode b_FM_load 34 = .ok (.aload_n 0, 1) := by decide +kernel
theorem d_FM_load_35 : decode b_FM_load 35 = .ok (.getfield 38, 3) := by decide +kernel
theorem d_FM_load_38 : decode b_FM_load 38 = .ok (.aload_n 0, 1) := by decide +kernel
theorem d_FM_load_39 : decode b_FM_load 39 = .ok (.getfield 10, 3) := by decide +kernel
theorem d_FM_load_42 : decode b_FM_load 42 = .ok (.getfield 68, 3) := by decide +kernel
theorem d_FM_load_45 : decode b_FM_load 45 = .ok (.invokestatic 71, 3) := by decide +kernel
theorem d_FM_load_48 : decode b_FM_load 48 = .ok (.istore_n 2, 1) := by decide +kernel
theorem d_FM_load_49 : decode b_FM_load 49 = .ok (.iload_n 2, 1) := by decide +kernel
theorem d_FM_load_50 : decode b_FM_load 50 = .ok (.ifCond .ne 11, 3) := by decide +kernel
theorem d_FM_load_53 : decode b_FM_load 53 = .ok (.aload_n 0, 1) := by decide +kernel
theorem d_FM_load_54 : decode b_FM_load 54 = .ok (.getfield 38, 3) := by decide +kernel
theorem d_FM_load_57 : decode b_FM_load 57 = .ok (.invokestatic 77, 3) := by decide +kernel
theorem d_FM_load_60 : decode b_FM_load 60 = .ok (.istore_n 2, 1) := by decide +kernel
theorem d_FM_load_61 : decode b_FM_load 61 = .ok (.iload_n 2, 1) := by decide +kernel
theorem d_FM_load_62 : decode b_FM_load 62 = .ok (.ifCond .eq 5, 3) := by decide +kernel
theorem d_FM_load_65 : decode b_FM_load 65 = .ok (.iload_n 2, 1) := by decide +kernel
theorem d_FM_load_66 : decode b_FM_load 66 = .ok (.ireturn, 1) := by decide +kernel
theorem d_FM_load_67 : decode b_FM_load 67 = .ok (.aload_n 0, 1) := by decide +kernel
theorem d_FM_load_68 : decode b_FM_load 68 = .ok (.getfield 38, 3) := by decide +kernel
theorem d_FM_load_71 : decode b_FM_load 71 = .ok (.iload_n 1, 1) := by decide +kernel
theorem d_FM_load_72 : decode b_FM_load 72 = .ok (.ifCond .ne 13, 3) := by decide +kernel
theorem d_FM_load_75 : decode b_FM_load 75 = .ok (.aload_n 0, 1) := by decide +kernel
theorem d_FM_load_76 : decode b_FM_load 76 = .ok (.getfield 38, 3) := by decide +kernel
theorem d_FM_load_79 : decode b_FM_load 79 = .ok (.invokevirtual 81, 3) := by decide +kernel
theorem d_FM_load_82 : decode b_FM_load 82 = .ok (.goto 4, 3) := by decide +kernel
theorem d_FM_load_85 : decode b_FM_load 85 = .ok (.iload_n 1, 1) := by decide +kernel
theorem d_FM_load_86 : decode b_FM_load 86 = .ok (.invokevirtual 85, 3) := by decide +kernel
theorem d_FM_load_89 : decode b_FM_load 89 = .ok (.aload_n 0, 1) := by decide +kernel
theorem d_FM_load_90 : decode b_FM_load 90 = .ok (.getfield 34, 3) := by decide +kernel
theorem d_FM_load_93 : decode b_FM_load 93 = .ok (.astore_n 3, 1) := by decide +kernel
theorem d_FM_load_94 : decode b_FM_load 94 = .ok (.aload_n 0, 1) := by decide +kernel
theorem d_FM_load_95 : decode b_FM_load 95 = .ok (.aload_n 0, 1) := by decide +kernel
theorem d_FM_load_96 : decode b_FM_load 96 = .ok (.getfield 38, 3) := by decide +kernel
theorem d_FM_load_99 : decode b_FM_load 99 = .ok (.putfield 34, 3) := by decide +kernel
theorem d_FM_load_102 : decode b_FM_load 102 = .ok (.aload_n 0, 1) := by decide +kernel
theorem d_FM_load_103 : decode b_FM_load 103 = .ok (.aload_n 3, 1) := by decide +kernel
theorem d_FM_load_104 : decode b_FM_load 104 = .ok (.putfield 38, 3) := by decide +kernel
theorem d_FM_load_107 : decode b_FM_load 107 = .ok (.aload_n 0, 1) := by decide +kernel
theorem d_FM_load_108 : decode b_FM_load 108 = .ok (.iconst 1, 1) := by decide +kernel
theorem d_FM_load_109 : decode b_FM_load 109 = .ok (.putfield 41, 3) := by decide +kernel
theorem d_FM_load_112 : decode b_FM_load 112 = .ok (.aload_n 0, 1) := by decide +kernel
theorem d_FM_load_113 : decode b_FM_load 113 = .ok (.getfield 19, 3) := by decide +kernel
theorem d_FM_load_116 : decode b_FM_load 116 = .ok (.invokevirtual 89, 3) := by decide +kernel
theorem d_FM_load_119 : decode b_FM_load 119 = .ok (.iconst 0, 1) := by decide +kernel
theorem d_FM_load_120 : decode b_FM_load 120 = .ok (.ireturn, 1) := by decide +kernel
set_option maxHeartbeats 4000000 in
set_option maxRecDepth 100000 in
theorem c_FM_loadF (l : Launch) (dC : Nat → ClassId) (dI : Nat → Nat → Nat) (h : Nat) (bf : Nat) (li : Nat) (ra : Nat) (rl : Int32) (o : Nat) (sp : Nat) (ld : Int32) (ba : Nat) (n : Nat) (cI : ClassId) (b : Nat → Int32) (wb : Nat) (sb : Nat) (lb : Nat) (bc2 : Int32) (ec2 : Int32) (sz2 : Int32) (sc2 : Int32) (hv2 : Int32) (w2 : Nat → Int32) (st2 : Nat → Int32) (ln2 : Nat → Int32) (B : Nat → Nat) (a : Nat) (hn : n ≤ 8192) (ha : a ≤ 134217727) (hB : ∀ i, B i < 256) (hFl : fm_Fl b B n) (hft : fm_fault B n ≠ 0) : fm_MW l (dC, dI) y_FM_load w_FM_load ({ frames := 6, cells := 0, slots := 0, locals := 133 }) [.ref h, .int (nI (a))] [(h, .inr (3, [.ref bf, .ref li, .ref ra, .int (rl), .ref o, .ref sp, .int (ld)])), (bf, .inr (0, [.ref ba, .int (nI (n))])), (ba, .inl (cI, 2048, .inl (b))), (sp, .inr (1, [.ref wb, .ref sb, .ref lb, .int (bc2), .int (ec2), .int (sz2), .int (sc2), .int (hv2)])), (wb, .inl (cI, 2048, .inl (w2))), (sb, .inl (cI, 10, .inl (st2))), (lb, .inl (cI, 10, .inl (ln2)))] [(h, .inr (3, [.ref bf, .ref li, .ref ra, .int (rl), .ref o, .ref sp, .int (ld)])), (bf, .inr (0, [.ref ba, .int (nI (n))])), (ba, .inl (cI, 2048, .inl (b))), (sp, .inr (1, [.ref wb, .ref sb, .ref lb, .int (nI (fm_nb (fm_tk b w2) 2)), .int (nI (fm_nb (fm_tk b w2) 3)), .int (sz2), .int (sc2), .int (hv2)])), (wb, .inl (cI, 2048, .inl (fm_tk b w2))), (sb, .inl (cI, 10, .inl (fm_cp (fm_sI (fm_tk b w2)) st2 10))), (lb, .inl (cI, 10, .inl (fm_cp (fm_ln (fm_tk b w2)) ln2 10)))] [(cI, .int)] (some (.int (nI (fm_fault B n)))) := by
  refine Met.ofW (cc := b_FM_load) (maxL := 4) (ret := (some .int)) (by decide) rfl ?_
  intro pg ev s m args below meth cd s₁ BD hml hv
  obtain ⟨rfl, hP, hK, hD0⟩ := hv
  have hx := BD.exec
  have hb := BD.bytes
  have hr := BD.returns
  have hts := atoms_spec (ws := w_FM_load) BD.pre
  have ht : ∀ w ∈ fm_T, w.before _ s = true := fun w h => hts w (List.mem_cons_of_mem _ h)
  have hown : s.vm.findClass R_FM = some m.cls := findClass_of_methodNamed BD.named
  have hlocks := BD.notSynchronized
  have S : CallFix pg m cd b_FM_load 4 s _ w_FM_load R_FM := ⟨hx, hb, hml, hown, hts⟩
  have hD := fm_selfD hD0
  generalize fm_A [(h, .inr (3, [.ref bf, .ref li, .ref ra, .int (rl), .ref o, .ref sp, .int (ld)])), (bf, .inr (0, [.ref ba, .int (nI (n))])), (ba, .inl (cI, 2048, .inl (b))), (sp, .inr (1, [.ref wb, .ref sb, .ref lb, .int (bc2), .int (ec2), .int (sz2), .int (sc2), .int (hv2)])), (wb, .inl (cI, 2048, .inl (w2))), (sb, .inl (cI, 10, .inl (st2))), (lb, .inl (cI, 10, .inl (ln2)))] = A at hD ⊢
  have hS : va_S A s.heap s.heap [] := va_S.rf
  have hl := lv_entry ([.ref h, .int (nI (a))]) (n := 4) (Nat.le_of_ble_eq_true rfl)
  rw [lg_entry_eq]
  generalize (lg_sl ([.ref h, .int (nI (a))]) ++ List.replicate (4 - (lg_sl ([.ref h, .int (nI (a))])).length) Slot.unset).toArray = ls at hl ⊢
  have hl : lv_has ls 4 [(0, .ref h), (1, .int (nI (a)))] := hl
  refine lv_iload_n hx hb d_FM_load_0 rfl (lv_at hl 1 rfl) ?_
  refine lv_if_lt (tgt := 10) hx hb d_FM_load_1 (by decide) (fun c0 => ?_) (fun c0 => ?_)
  · have c_1 : a < 0 := (nI_ltI (a := a) (b := 0) (by omega) (by omega)).mp c0
    exact absurd c_1 (by omega)
  · have c_1 : ¬ (a < 0) := fun z => c0 ((nI_ltI (a := a) (b := 0) (by omega) (by omega)).mpr z)
    refine lv_iload_n hx hb d_FM_load_4 rfl (lv_at hl 1 rfl) ?_
    refine lv_ldc (own := R_FM) (v := nI (134217727)) hx hb hown (ht _ q_1_200) d_FM_load_5 ?_
    refine lv_icmp_le (tgt := 20) hx hb d_FM_load_7 (by decide) (fun c0 => ?_) (fun c0 => ?_)
    · have c_7 : a ≤ 134217727 := (nI_leI (a := a) (b := 134217727) (by omega) (by omega)).mp c0
      refine lv_aload_n hx hb d_FM_load_20 rfl (lv_at hl 0 rfl) ?_
      refine va_get (D := (dC, dI)) (ci := 3) (v := .ref sp) (C := R_FM) (T := F_FM) (N := 7) hx hb ht i_FM hown hK hP 0 rfl rfl 5 (by decide) (ht _ q_1_104) (fun _ h9 => h9) rfl d_FM_load_21 ?_
      refine lv_aload_n hx hb d_FM_load_24 rfl (lv_at hl 0 rfl) ?_
      refine va_get (D := (dC, dI)) (ci := 3) (v := .ref bf) (C := R_FM) (T := F_FM) (N := 7) hx hb ht i_FM hown hK hP 0 rfl rfl 0 (by decide) (ht _ q_1_99) (fun _ h9 => h9) rfl d_FM_load_25 ?_
      refine va_get (D := (dC, dI)) (ci := 0) (v := .ref ba) (C := R_BF) (T := F_BF) (N := 2) hx hb ht i_BF hown hK hP 1 rfl rfl 0 (by decide) (ht _ q_1_30) (fun _ h9 => h9) rfl d_FM_load_28 ?_
      refine fm_wv S (c_FO_take l dC dI sp wb sb lb bc2 ec2 sz2 sc2 hv2 cI w2 st2 ln2 ba b ) rfl rfl k_FO_take q_2_29 ⟨Nat.le_of_ble_eq_true rfl, Nat.le_of_ble_eq_true rfl⟩ hP hD hS (hK.sub [0] rfl) [3, 4, 5, 6, 2] (by decide) rfl 0 rfl rfl rfl hl.1 rfl (Nat.le_of_ble_eq_true rfl) ⟨Nat.zero_le _, Nat.zero_le _⟩ d_FM_load_31 [(h, .inr (3, [.ref bf, .ref li, .ref ra, .int (rl), .ref o, .ref sp, .int (ld)])), (bf, .inr (0, [.ref ba, .int (nI (n))])), (ba, .inl (cI, 2048, .inl (b))), (sp, .inr (1, [.ref wb, .ref sb, .ref lb, .int (nI (fm_nb (fm_tk b w2) 2)), .int (nI (fm_nb (fm_tk b w2) 3)), .int (sz2), .int (sc2), .int (hv2)])), (wb, .inl (cI, 2048, .inl (fm_tk b w2))), (sb, .inl (cI, 10, .inl (fm_cp (fm_sI (fm_tk b w2)) st2 10))), (lb, .inl (cI, 10, .inl (fm_cp (fm_ln (fm_tk b w2)) ln2 10)))] [0, 1] rfl rfl (show ∀ i, i < 7 → i ∈ ([3, 4, 5, 6, 2] : List Nat) ∨ i ∈ ([0, 1] : List Nat) by decide) (by decide) rfl (fun H locs hP hD hS => ?_)
      have hP : va_P (dC, dI) classes [(h, .inr (3, [.ref bf, .ref li, .ref ra, .int (rl), .ref o, .ref sp, .int (ld)])), (bf, .inr (0, [.ref ba, .int (nI (n))])), (ba, .inl (cI, 2048, .inl (b))), (sp, .inr (1, [.ref wb, .ref sb, .ref lb, .int (nI (fm_nb (fm_tk b w2) 2)), .int (nI (fm_nb (fm_tk b w2) 3)), .int (sz2), .int (sc2), .int (hv2)])), (wb, .inl (cI, 2048, .inl (fm_tk b w2))), (sb, .inl (cI, 10, .inl (fm_cp (fm_sI (fm_tk b w2)) st2 10))), (lb, .inl (cI, 10, .inl (fm_cp (fm_ln (fm_tk b w2)) ln2 10)))] _ := hP
      have hD : va_D A [(h, .inr (3, [.ref bf, .ref li, .ref ra, .int (rl), .ref o, .ref sp, .int (ld)])), (bf, .inr (0, [.ref ba, .int (nI (n))])), (ba, .inl (cI, 2048, .inl (b))), (sp, .inr (1, [.ref wb, .ref sb, .ref lb, .int (nI (fm_nb (fm_tk b w2) 2)), .int (nI (fm_nb (fm_tk b w2) 3)), .int (sz2), .int (sc2), .int (hv2)])), (wb, .inl (cI, 2048, .inl (fm_tk b w2))), (sb, .inl (cI, 10, .inl (fm_cp (fm_sI (fm_tk b w2)) st2 10))), (lb, .inl (cI, 10, .inl (fm_cp (fm_ln (fm_tk b w2)) ln2 10)))] := hD
      have hf4 := fm_f4_lt B n
      have hpt := fm_parts_lt B
      refine lv_aload_n hx hb d_FM_load_34 rfl (lv_at hl 0 rfl) ?_
      refine va_get (D := (dC, dI)) (ci := 3) (v := .ref sp) (C := R_FM) (T := F_FM) (N := 7) hx hb ht i_FM hown hK hP 0 rfl rfl 5 (by decide) (ht _ q_1_104) (fun _ h9 => h9) rfl d_FM_load_35 ?_
      refine lv_aload_n hx hb d_FM_load_38 rfl (lv_at hl 0 rfl) ?_
      refine va_get (D := (dC, dI)) (ci := 3) (v := .ref bf) (C := R_FM) (T := F_FM) (N := 7) hx hb ht i_FM hown hK hP 0 rfl rfl 0 (by decide) (ht _ q_1_99) (fun _ h9 => h9) rfl d_FM_load_39 ?_
      refine va_get (D := (dC, dI)) (ci := 0) (v := .int (nI (n))) (C := R_BF) (T := F_BF) (N := 2) hx hb ht i_BF hown hK hP 1 rfl rfl 1 (by decide) (ht _ q_1_32) (fun _ h9 => h9) rfl d_FM_load_42 ?_
      refine fm_cs S (c_FA_firstOfNumbers l dC dI sp wb sb lb sz2 sc2 hv2 cI (fm_tk b w2) (fm_cp (fm_sI (fm_tk b w2)) st2 10) (fm_cp (fm_ln (fm_tk b w2)) ln2 10) B n (hB) (by omega) (fm_tk_nb hB hFl) (fun h p hp h1 => by rw [fm_cp_in hp]; exact fm_ln_WD (fm_tk_nb hB hFl h) hp (fun z => absurd z h1)) (fun h h1 => by rw [fm_cp_in (by decide)]; exact fm_ln_WD (fm_tk_nb hB hFl h) (by decide) (fun _ => h1))) rfl rfl k_FA_firstOfNumbers q_2_48 ⟨Nat.le_of_ble_eq_true rfl, Nat.le_of_ble_eq_true rfl⟩ (hP.sub [3, 4, 5, 6] rfl) (hK.sub [0] rfl) rfl hl.1 rfl (Nat.le_of_ble_eq_true rfl) ⟨Nat.zero_le _, Nat.zero_le _⟩ d_FM_load_45 ?_
      refine lv_istore_n (lv' := [(2, .int (nI (fm_f4 B n))), (0, .ref h), (1, .int (nI (a)))]) hx hb d_FM_load_48 rfl hl (by decide) rfl (fun ls hl => ?_)
      refine lv_iload_n hx hb d_FM_load_49 rfl (lv_at hl 0 rfl) ?_
      refine lv_if_ne (tgt := 61) hx hb d_FM_load_50 (by decide) (fun c0 => ?_) (fun c0 => ?_)
      · have c_50 : ¬ (fm_f4 B n = 0) := fun z => c0 ((nI_eq (a := fm_f4 B n) (b := 0) (by omega) (by omega)).mpr z)
        refine lv_iload_n hx hb d_FM_load_61 rfl (lv_at hl 0 rfl) ?_
        refine lv_if_eq (tgt := 67) hx hb d_FM_load_62 (by decide) (fun c0 => ?_) (fun c0 => ?_)
        · have c_62 : fm_f4 B n = 0 := (nI_eq (a := fm_f4 B n) (b := 0) (by omega) (by omega)).mp c0
          first | exact absurd c_62 c_50 | exact absurd (by rw [fm_fault_eq, if_pos c_50]; exact c_62) hft
        · have c_62 : ¬ (fm_f4 B n = 0) := fun z => c0 ((nI_eq (a := fm_f4 B n) (b := 0) (by omega) (by omega)).mpr z)
          refine lv_iload_n hx hb d_FM_load_65 rfl (lv_at hl 0 rfl) ?_
          exact W.iret hx hb hr (fun t ht hW => ⟨congrArg (fun z => Outcome.returned (some (Value.int z))) (by first | (rw [fm_fault_eq, if_pos c_50]; done) | (rw [fm_fault_eq, if_neg c_50]; done)), by rw [ht]; exact hP, hS.F ht⟩) hS.2.2 d_FM_load_66
      · have c_50 : fm_f4 B n = 0 := (nI_eq (a := fm_f4 B n) (b := 0) (by omega) (by omega)).mp c0
        obtain ⟨hL, hfew, hn4⟩ := fm_f4_0 hB hn c_50
        obtain ⟨hFO, e2, e3⟩ := fm_tk_FO (w := w2) (st := st2) (ln := ln2) hn hL hn4 hFl
        have hd0 : 1 < fm_WD B 0 := Nat.lt_of_not_le (fun z => by rw [fm_few_t (Or.inl (by omega))] at hfew; cases hfew)
        have hne := fm_few_ne hfew
        rw [e2, e3] at hP hD
        have hP : va_P (dC, dI) classes [(h, .inr (3, [.ref bf, .ref li, .ref ra, .int (rl), .ref o, .ref sp, .int (ld)])), (bf, .inr (0, [.ref ba, .int (nI (n))])), (ba, .inl (cI, 2048, .inl (b))), (sp, .inr (1, [.ref wb, .ref sb, .ref lb, .int (nI (fm_HF B 2)), .int (nI (fm_HF B 3)), .int (sz2), .int (sc2), .int (hv2)])), (wb, .inl (cI, 2048, .inl (fm_tk b w2))), (sb, .inl (cI, 10, .inl (fm_cp (fm_sI (fm_tk b w2)) st2 10))), (lb, .inl (cI, 10, .inl (fm_cp (fm_ln (fm_tk b w2)) ln2 10)))] _ := hP
        have hD : va_D A [(h, .inr (3, [.ref bf, .ref li, .ref ra, .int (rl), .ref o, .ref sp, .int (ld)])), (bf, .inr (0, [.ref ba, .int (nI (n))])), (ba, .inl (cI, 2048, .inl (b))), (sp, .inr (1, [.ref wb, .ref sb, .ref lb, .int (nI (fm_HF B 2)), .int (nI (fm_HF B 3)), .int (sz2), .int (sc2), .int (hv2)])), (wb, .inl (cI, 2048, .inl (fm_tk b w2))), (sb, .inl (cI, 10, .inl (fm_cp (fm_sI (fm_tk b w2)) st2 10))), (lb, .inl (cI, 10, .inl (fm_cp (fm_ln (fm_tk b w2)) ln2 10)))] := hD
        refine lv_aload_n hx hb d_FM_load_53 rfl (lv_at hl 1 rfl) ?_
        refine va_get (D := (dC, dI)) (ci := 3) (v := .ref sp) (C := R_FM) (T := F_FM) (N := 7) hx hb ht i_FM hown hK hP 0 rfl rfl 5 (by decide) (ht _ q_1_104) (fun _ h9 => h9) rfl d_FM_load_54 ?_
        refine fm_cs S (c_FA_firstOfParts l dC dI sp wb sb lb sz2 sc2 hv2 cI B (fm_tk b w2) (fm_cp (fm_sI (fm_tk b w2)) st2 10) (fm_cp (fm_ln (fm_tk b w2)) ln2 10) (hFO) (hd0) (hne)) rfl rfl k_FA_firstOfParts q_2_65 ⟨Nat.le_of_ble_eq_true rfl, Nat.le_of_ble_eq_true rfl⟩ (hP.sub [3, 4, 5, 6] rfl) (hK.sub [0] rfl) rfl hl.1 rfl (Nat.le_of_ble_eq_true rfl) ⟨Nat.zero_le _, Nat.zero_le _⟩ d_FM_load_57 ?_
        rw [← e2, ← e3] at hP hD
        have hP : va_P (dC, dI) classes [(h, .inr (3, [.ref bf, .ref li, .ref ra, .int (rl), .ref o, .ref sp, .int (ld)])), (bf, .inr (0, [.ref ba, .int (nI (n))])), (ba, .inl (cI, 2048, .inl (b))), (sp, .inr (1, [.ref wb, .ref sb, .ref lb, .int (nI (fm_nb (fm_tk b w2) 2)), .int (nI (fm_nb (fm_tk b w2) 3)), .int (sz2), .int (sc2), .int (hv2)])), (wb, .inl (cI, 2048, .inl (fm_tk b w2))), (sb, .inl (cI, 10, .inl (fm_cp (fm_sI (fm_tk b w2)) st2 10))), (lb, .inl (cI, 10, .inl (fm_cp (fm_ln (fm_tk b w2)) ln2 10)))] _ := hP
        have hD : va_D A [(h, .inr (3, [.ref bf, .ref li, .ref ra, .int (rl), .ref o, .ref sp, .int (ld)])), (bf, .inr (0, [.ref ba, .int (nI (n))])), (ba, .inl (cI, 2048, .inl (b))), (sp, .inr (1, [.ref wb, .ref sb, .ref lb, .int (nI (fm_nb (fm_tk b w2) 2)), .int (nI (fm_nb (fm_tk b w2) 3)), .int (sz2), .int (sc2), .int (hv2)])), (wb, .inl (cI, 2048, .inl (fm_tk b w2))), (sb, .inl (cI, 10, .inl (fm_cp (fm_sI (fm_tk b w2)) st2 10))), (lb, .inl (cI, 10, .inl (fm_cp (fm_ln (fm_tk b w2)) ln2 10)))] := hD
        refine lv_istore_n (lv' := [(2, .int (nI (fm_parts B))), (0, .ref h), (1, .int (nI (a)))]) hx hb d_FM_load_60 rfl hl (by decide) rfl (fun ls hl => ?_)
        refine lv_iload_n hx hb d_FM_load_61 rfl (lv_at hl 0 rfl) ?_
        refine lv_if_eq (tgt := 67) hx hb d_FM_load_62 (by decide) (fun c0 => ?_) (fun c0 => ?_)
        · have c_62 : fm_parts B = 0 := (nI_eq (a := fm_parts B) (b := 0) (by omega) (by omega)).mp c0
          first | exact absurd c_62 c_50 | exact absurd (by rw [fm_fault_eq, if_pos c_50]; exact c_62) hft
        · have c_62 : ¬ (fm_parts B = 0) := fun z => c0 ((nI_eq (a := fm_parts B) (b := 0) (by omega) (by omega)).mpr z)
          refine lv_iload_n hx hb d_FM_load_65 rfl (lv_at hl 0 rfl) ?_
          exact W.iret hx hb hr (fun t ht hW => ⟨congrArg (fun z => Outcome.returned (some (Value.int z))) (by first | (rw [fm_fault_eq, if_pos c_50]; done) | (rw [fm_fault_eq, if_neg c_50]; done)), by rw [ht]; exact hP, hS.F ht⟩) hS.2.2 d_FM_load_66
    · have c_7 : ¬ (a ≤ 134217727) := fun z => c0 ((nI_leI (a := a) (b := 134217727) (by omega) (by omega)).mpr z)
      exact absurd ha c_7
set_option maxHeartbeats 4000000 in
set_option maxRecDepth 100000 in
theorem c_FM_loadO (l : Launch) (dC : Nat → ClassId) (dI : Nat → Nat → Nat) (h : Nat) (bf : Nat) (li : Nat) (ra : Nat) (rl : Int32) (o : Nat) (sp : Nat) (ld : Int32) (ba : Nat) (n : Nat) (cI : ClassId) (b : Nat → Int32) (wb : Nat) (sb : Nat) (lb : Nat) (bc2 : Int32) (ec2 : Int32) (sz2 : Int32) (sc2 : Int32) (hv2 : Int32) (w2 : Nat → Int32) (st2 : Nat → Int32) (ln2 : Nat → Int32) (B : Nat → Nat) (a : Nat) (pa : Nat) (va : Nat) (na : Nat) (le : Int32) (co : Int32) (hn : n ≤ 8192) (ha : a ≤ 134217727) (hB : ∀ i, B i < 256) (hFl : fm_Fl b B n) (hft : fm_fault B n = 0) : fm_MW l (dC, dI) y_FM_load w_FM_load ({ frames := 6, cells := 0, slots := 0, locals := 133 }) [.ref h, .int (nI (a))] [(h, .inr (3, [.ref bf, .ref li, .ref ra, .int (rl), .ref o, .ref sp, .int (ld)])), (bf, .inr (0, [.ref ba, .int (nI (n))])), (ba, .inl (cI, 2048, .inl (b))), (sp, .inr (1, [.ref wb, .ref sb, .ref lb, .int (bc2), .int (ec2), .int (sz2), .int (sc2), .int (hv2)])), (wb, .inl (cI, 2048, .inl (w2))), (sb, .inl (cI, 10, .inl (st2))), (lb, .inl (cI, 10, .inl (ln2))), (li, .inr (2, [.ref pa, .ref va, .ref na, .int (le), .int (co)]))] [(h, .inr (3, [.ref bf, .ref li, .ref ra, .int (rl), .ref sp, .ref o, .int (nI (1))])), (bf, .inr (0, [.ref ba, .int (nI (n))])), (ba, .inl (cI, 2048, .inl (b))), (sp, .inr (1, [.ref wb, .ref sb, .ref lb, .int (nI (fm_nb (fm_tk b w2) 2)), .int (nI (fm_nb (fm_tk b w2) 3)), .int (nI (fm_s1 B a)), .int (nI (fm_z (fm_s1 B a))), .int (nI (fm_h (fm_s1 B a)))])), (wb, .inl (cI, 2048, .inl (fm_tk b w2))), (sb, .inl (cI, 10, .inl (fm_cp (fm_sI (fm_tk b w2)) st2 10))), (lb, .inl (cI, 10, .inl (fm_cp (fm_ln (fm_tk b w2)) ln2 10))), (li, .inr (2, [.ref pa, .ref va, .ref na, .int (nI (0)), .int (nI (0))]))] [(cI, .int)] (some (.int (nI (0)))) := by
  refine Met.ofW (cc := b_FM_load) (maxL := 4) (ret := (some .int)) (by decide) rfl ?_
  intro pg ev s m args below meth cd s₁ BD hml hv
  obtain ⟨rfl, hP, hK, hD0⟩ := hv
  have hx := BD.exec
  have hb := BD.bytes
  have hr := BD.returns
  have hts := atoms_spec (ws := w_FM_load) BD.pre
  have ht : ∀ w ∈ fm_T, w.before _ s = true := fun w h => hts w (List.mem_cons_of_mem _ h)
  have hown : s.vm.findClass R_FM = some m.cls := findClass_of_methodNamed BD.named
  have hlocks := BD.notSynchronized
  have S : CallFix pg m cd b_FM_load 4 s _ w_FM_load R_FM := ⟨hx, hb, hml, hown, hts⟩
  have hD := fm_selfD hD0
  generalize fm_A [(h, .inr (3, [.ref bf, .ref li, .ref ra, .int (rl), .ref o, .ref sp, .int (ld)])), (bf, .inr (0, [.ref ba, .int (nI (n))])), (ba, .inl (cI, 2048, .inl (b))), (sp, .inr (1, [.ref wb, .ref sb, .ref lb, .int (bc2), .int (ec2), .int (sz2), .int (sc2), .int (hv2)])), (wb, .inl (cI, 2048, .inl (w2))), (sb, .inl (cI, 10, .inl (st2))), (lb, .inl (cI, 10, .inl (ln2))), (li, .inr (2, [.ref pa, .ref va, .ref na, .int (le), .int (co)]))] = A at hD ⊢
  have hS : va_S A s.heap s.heap [] := va_S.rf
  have hl := lv_entry ([.ref h, .int (nI (a))]) (n := 4) (Nat.le_of_ble_eq_true rfl)
  rw [lg_entry_eq]
  generalize (lg_sl ([.ref h, .int (nI (a))]) ++ List.replicate (4 - (lg_sl ([.ref h, .int (nI (a))])).length) Slot.unset).toArray = ls at hl ⊢
  have hl : lv_has ls 4 [(0, .ref h), (1, .int (nI (a)))] := hl
  refine lv_iload_n hx hb d_FM_load_0 rfl (lv_at hl 1 rfl) ?_
  refine lv_if_lt (tgt := 10) hx hb d_FM_load_1 (by decide) (fun c0 => ?_) (fun c0 => ?_)
  · have c_1 : a < 0 := (nI_ltI (a := a) (b := 0) (by omega) (by omega)).mp c0
    exact absurd c_1 (by omega)
  · have c_1 : ¬ (a < 0) := fun z => c0 ((nI_ltI (a := a) (b := 0) (by omega) (by omega)).mpr z)
    refine lv_iload_n hx hb d_FM_load_4 rfl (lv_at hl 1 rfl) ?_
    refine lv_ldc (own := R_FM) (v := nI (134217727)) hx hb hown (ht _ q_1_200) d_FM_load_5 ?_
    refine lv_icmp_le (tgt := 20) hx hb d_FM_load_7 (by decide) (fun c0 => ?_) (fun c0 => ?_)
    · have c_7 : a ≤ 134217727 := (nI_leI (a := a) (b := 134217727) (by omega) (by omega)).mp c0
      refine lv_aload_n hx hb d_FM_load_20 rfl (lv_at hl 0 rfl) ?_
      refine va_get (D := (dC, dI)) (ci := 3) (v := .ref sp) (C := R_FM) (T := F_FM) (N := 7) hx hb ht i_FM hown hK hP 0 rfl rfl 5 (by decide) (ht _ q_1_104) (fun _ h9 => h9) rfl d_FM_load_21 ?_
      refine lv_aload_n hx hb d_FM_load_24 rfl (lv_at hl 0 rfl) ?_
      refine va_get (D := (dC, dI)) (ci := 3) (v := .ref bf) (C := R_FM) (T := F_FM) (N := 7) hx hb ht i_FM hown hK hP 0 rfl rfl 0 (by decide) (ht _ q_1_99) (fun _ h9 => h9) rfl d_FM_load_25 ?_
      refine va_get (D := (dC, dI)) (ci := 0) (v := .ref ba) (C := R_BF) (T := F_BF) (N := 2) hx hb ht i_BF hown hK hP 1 rfl rfl 0 (by decide) (ht _ q_1_30) (fun _ h9 => h9) rfl d_FM_load_28 ?_
      refine fm_wv S (c_FO_take l dC dI sp wb sb lb bc2 ec2 sz2 sc2 hv2 cI w2 st2 ln2 ba b ) rfl rfl k_FO_take q_2_29 ⟨Nat.le_of_ble_eq_true rfl, Nat.le_of_ble_eq_true rfl⟩ hP hD hS (hK.sub [0] rfl) [3, 4, 5, 6, 2] (by decide) rfl 0 rfl rfl rfl hl.1 rfl (Nat.le_of_ble_eq_true rfl) ⟨Nat.zero_le _, Nat.zero_le _⟩ d_FM_load_31 [(h, .inr (3, [.ref bf, .ref li, .ref ra, .int (rl), .ref o, .ref sp, .int (ld)])), (bf, .inr (0, [.ref ba, .int (nI (n))])), (ba, .inl (cI, 2048, .inl (b))), (sp, .inr (1, [.ref wb, .ref sb, .ref lb, .int (nI (fm_nb (fm_tk b w2) 2)), .int (nI (fm_nb (fm_tk b w2) 3)), .int (sz2), .int (sc2), .int (hv2)])), (wb, .inl (cI, 2048, .inl (fm_tk b w2))), (sb, .inl (cI, 10, .inl (fm_cp (fm_sI (fm_tk b w2)) st2 10))), (lb, .inl (cI, 10, .inl (fm_cp (fm_ln (fm_tk b w2)) ln2 10))), (li, .inr (2, [.ref pa, .ref va, .ref na, .int (le), .int (co)]))] [0, 1, 7] rfl rfl (show ∀ i, i < 8 → i ∈ ([3, 4, 5, 6, 2] : List Nat) ∨ i ∈ ([0, 1, 7] : List Nat) by decide) (by decide) rfl (fun H locs hP hD hS => ?_)
      have hP : va_P (dC, dI) classes [(h, .inr (3, [.ref bf, .ref li, .ref ra, .int (rl), .ref o, .ref sp, .int (ld)])), (bf, .inr (0, [.ref ba, .int (nI (n))])), (ba, .inl (cI, 2048, .inl (b))), (sp, .inr (1, [.ref wb, .ref sb, .ref lb, .int (nI (fm_nb (fm_tk b w2) 2)), .int (nI (fm_nb (fm_tk b w2) 3)), .int (sz2), .int (sc2), .int (hv2)])), (wb, .inl (cI, 2048, .inl (fm_tk b w2))), (sb, .inl (cI, 10, .inl (fm_cp (fm_sI (fm_tk b w2)) st2 10))), (lb, .inl (cI, 10, .inl (fm_cp (fm_ln (fm_tk b w2)) ln2 10))), (li, .inr (2, [.ref pa, .ref va, .ref na, .int (le), .int (co)]))] _ := hP
      have hD : va_D A [(h, .inr (3, [.ref bf, .ref li, .ref ra, .int (rl), .ref o, .ref sp, .int (ld)])), (bf, .inr (0, [.ref ba, .int (nI (n))])), (ba, .inl (cI, 2048, .inl (b))), (sp, .inr (1, [.ref wb, .ref sb, .ref lb, .int (nI (fm_nb (fm_tk b w2) 2)), .int (nI (fm_nb (fm_tk b w2) 3)), .int (sz2), .int (sc2), .int (hv2)])), (wb, .inl (cI, 2048, .inl (fm_tk b w2))), (sb, .inl (cI, 10, .inl (fm_cp (fm_sI (fm_tk b w2)) st2 10))), (lb, .inl (cI, 10, .inl (fm_cp (fm_ln (fm_tk b w2)) ln2 10))), (li, .inr (2, [.ref pa, .ref va, .ref na, .int (le), .int (co)]))] := hD
      have hf4 := fm_f4_lt B n
      have hpt := fm_parts_lt B
      refine lv_aload_n hx hb d_FM_load_34 rfl (lv_at hl 0 rfl) ?_
      refine va_get (D := (dC, dI)) (ci := 3) (v := .ref sp) (C := R_FM) (T := F_FM) (N := 7) hx hb ht i_FM hown hK hP 0 rfl rfl 5 (by decide) (ht _ q_1_104) (fun _ h9 => h9) rfl d_FM_load_35 ?_
      refine lv_aload_n hx hb d_FM_load_38 rfl (lv_at hl 0 rfl) ?_
      refine va_get (D := (dC, dI)) (ci := 3) (v := .ref bf) (C := R_FM) (T := F_FM) (N := 7) hx hb ht i_FM hown hK hP 0 rfl rfl 0 (by decide) (ht _ q_1_99) (fun _ h9 => h9) rfl d_FM_load_39 ?_
      refine va_get (D := (dC, dI)) (ci := 0) (v := .int (nI (n))) (C := R_BF) (T := F_BF) (N := 2) hx hb ht i_BF hown hK hP 1 rfl rfl 1 (by decide) (ht _ q_1_32) (fun _ h9 => h9) rfl d_FM_load_42 ?_
      refine fm_cs S (c_FA_firstOfNumbers l dC dI sp wb sb lb sz2 sc2 hv2 cI (fm_tk b w2) (fm_cp (fm_sI (fm_tk b w2)) st2 10) (fm_cp (fm_ln (fm_tk b w2)) ln2 10) B n (hB) (by omega) (fm_tk_nb hB hFl) (fun h p hp h1 => by rw [fm_cp_in hp]; exact fm_ln_WD (fm_tk_nb hB hFl h) hp (fun z => absurd z h1)) (fun h h1 => by rw [fm_cp_in (by decide)]; exact fm_ln_WD (fm_tk_nb hB hFl h) (by decide) (fun _ => h1))) rfl rfl k_FA_firstOfNumbers q_2_48 ⟨Nat.le_of_ble_eq_true rfl, Nat.le_of_ble_eq_true rfl⟩ (hP.sub [3, 4, 5, 6] rfl) (hK.sub [0] rfl) rfl hl.1 rfl (Nat.le_of_ble_eq_true rfl) ⟨Nat.zero_le _, Nat.zero_le _⟩ d_FM_load_45 ?_
      refine lv_istore_n (lv' := [(2, .int (nI (fm_f4 B n))), (0, .ref h), (1, .int (nI (a)))]) hx hb d_FM_load_48 rfl hl (by decide) rfl (fun ls hl => ?_)
      refine lv_iload_n hx hb d_FM_load_49 rfl (lv_at hl 0 rfl) ?_
      refine lv_if_ne (tgt := 61) hx hb d_FM_load_50 (by decide) (fun c0 => ?_) (fun c0 => ?_)
      · have c_50 : ¬ (fm_f4 B n = 0) := fun z => c0 ((nI_eq (a := fm_f4 B n) (b := 0) (by omega) (by omega)).mpr z)
        exact absurd (by rw [fm_fault_eq, if_neg c_50] at hft; exact hft) c_50
      · have c_50 : fm_f4 B n = 0 := (nI_eq (a := fm_f4 B n) (b := 0) (by omega) (by omega)).mp c0
        obtain ⟨hL, hfew, hn4⟩ := fm_f4_0 hB hn c_50
        obtain ⟨hFO, e2, e3⟩ := fm_tk_FO (w := w2) (st := st2) (ln := ln2) hn hL hn4 hFl
        have hd0 : 1 < fm_WD B 0 := Nat.lt_of_not_le (fun z => by rw [fm_few_t (Or.inl (by omega))] at hfew; cases hfew)
        have hne := fm_few_ne hfew
        rw [e2, e3] at hP hD
        have hP : va_P (dC, dI) classes [(h, .inr (3, [.ref bf, .ref li, .ref ra, .int (rl), .ref o, .ref sp, .int (ld)])), (bf, .inr (0, [.ref ba, .int (nI (n))])), (ba, .inl (cI, 2048, .inl (b))), (sp, .inr (1, [.ref wb, .ref sb, .ref lb, .int (nI (fm_HF B 2)), .int (nI (fm_HF B 3)), .int (sz2), .int (sc2), .int (hv2)])), (wb, .inl (cI, 2048, .inl (fm_tk b w2))), (sb, .inl (cI, 10, .inl (fm_cp (fm_sI (fm_tk b w2)) st2 10))), (lb, .inl (cI, 10, .inl (fm_cp (fm_ln (fm_tk b w2)) ln2 10))), (li, .inr (2, [.ref pa, .ref va, .ref na, .int (le), .int (co)]))] _ := hP
        have hD : va_D A [(h, .inr (3, [.ref bf, .ref li, .ref ra, .int (rl), .ref o, .ref sp, .int (ld)])), (bf, .inr (0, [.ref ba, .int (nI (n))])), (ba, .inl (cI, 2048, .inl (b))), (sp, .inr (1, [.ref wb, .ref sb, .ref lb, .int (nI (fm_HF B 2)), .int (nI (fm_HF B 3)), .int (sz2), .int (sc2), .int (hv2)])), (wb, .inl (cI, 2048, .inl (fm_tk b w2))), (sb, .inl (cI, 10, .inl (fm_cp (fm_sI (fm_tk b w2)) st2 10))), (lb, .inl (cI, 10, .inl (fm_cp (fm_ln (fm_tk b w2)) ln2 10))), (li, .inr (2, [.ref pa, .ref va, .ref na, .int (le), .int (co)]))] := hD
        refine lv_aload_n hx hb d_FM_load_53 rfl (lv_at hl 1 rfl) ?_
        refine va_get (D := (dC, dI)) (ci := 3) (v := .ref sp) (C := R_FM) (T := F_FM) (N := 7) hx hb ht i_FM hown hK hP 0 rfl rfl 5 (by decide) (ht _ q_1_104) (fun _ h9 => h9) rfl d_FM_load_54 ?_
        refine fm_cs S (c_FA_firstOfParts l dC dI sp wb sb lb sz2 sc2 hv2 cI B (fm_tk b w2) (fm_cp (fm_sI (fm_tk b w2)) st2 10) (fm_cp (fm_ln (fm_tk b w2)) ln2 10) (hFO) (hd0) (hne)) rfl rfl k_FA_firstOfParts q_2_65 ⟨Nat.le_of_ble_eq_true rfl, Nat.le_of_ble_eq_true rfl⟩ (hP.sub [3, 4, 5, 6] rfl) (hK.sub [0] rfl) rfl hl.1 rfl (Nat.le_of_ble_eq_true rfl) ⟨Nat.zero_le _, Nat.zero_le _⟩ d_FM_load_57 ?_
        rw [← e2, ← e3] at hP hD
        have hP : va_P (dC, dI) classes [(h, .inr (3, [.ref bf, .ref li, .ref ra, .int (rl), .ref o, .ref sp, .int (ld)])), (bf, .inr (0, [.ref ba, .int (nI (n))])), (ba, .inl (cI, 2048, .inl (b))), (sp, .inr (1, [.ref wb, .ref sb, .ref lb, .int (nI (fm_nb (fm_tk b w2) 2)), .int (nI (fm_nb (fm_tk b w2) 3)), .int (sz2), .int (sc2), .int (hv2)])), (wb, .inl (cI, 2048, .inl (fm_tk b w2))), (sb, .inl (cI, 10, .inl (fm_cp (fm_sI (fm_tk b w2)) st2 10))), (lb, .inl (cI, 10, .inl (fm_cp (fm_ln (fm_tk b w2)) ln2 10))), (li, .inr (2, [.ref pa, .ref va, .ref na, .int (le), .int (co)]))] _ := hP
        have hD : va_D A [(h, .inr (3, [.ref bf, .ref li, .ref ra, .int (rl), .ref o, .ref sp, .int (ld)])), (bf, .inr (0, [.ref ba, .int (nI (n))])), (ba, .inl (cI, 2048, .inl (b))), (sp, .inr (1, [.ref wb, .ref sb, .ref lb, .int (nI (fm_nb (fm_tk b w2) 2)), .int (nI (fm_nb (fm_tk b w2) 3)), .int (sz2), .int (sc2), .int (hv2)])), (wb, .inl (cI, 2048, .inl (fm_tk b w2))), (sb, .inl (cI, 10, .inl (fm_cp (fm_sI (fm_tk b w2)) st2 10))), (lb, .inl (cI, 10, .inl (fm_cp (fm_ln (fm_tk b w2)) ln2 10))), (li, .inr (2, [.ref pa, .ref va, .ref na, .int (le), .int (co)]))] := hD
        refine lv_istore_n (lv' := [(2, .int (nI (fm_parts B))), (0, .ref h), (1, .int (nI (a)))]) hx hb d_FM_load_60 rfl hl (by decide) rfl (fun ls hl => ?_)
        refine lv_iload_n hx hb d_FM_load_61 rfl (lv_at hl 0 rfl) ?_
        refine lv_if_eq (tgt := 67) hx hb d_FM_load_62 (by decide) (fun c0 => ?_) (fun c0 => ?_)
        · have c_62 : fm_parts B = 0 := (nI_eq (a := fm_parts B) (b := 0) (by omega) (by omega)).mp c0
          have hV := fm_parts_0 hL hfew c_62
          obtain ⟨hds1, hds2, hds3⟩ := fm_design hB hV.2.2.1
          have hs1 : fm_s1 B a < 134217728 := by unfold fm_s1; split <;> omega
          refine lv_aload_n hx hb d_FM_load_67 rfl (lv_at hl 1 rfl) ?_
          refine va_get (D := (dC, dI)) (ci := 3) (v := .ref sp) (C := R_FM) (T := F_FM) (N := 7) hx hb ht i_FM hown hK hP 0 rfl rfl 5 (by decide) (ht _ q_1_104) (fun _ h9 => h9) rfl d_FM_load_68 ?_
          refine lv_iload_n hx hb d_FM_load_71 rfl (lv_at hl 2 rfl) ?_
          refine lv_if_ne (tgt := 85) hx hb d_FM_load_72 (by decide) (fun c0 => ?_) (fun c0 => ?_)
          · have c_72 : ¬ (a = 0) := fun z => c0 ((nI_eq (a := a) (b := 0) (by omega) (by omega)).mpr z)
            refine lv_iload_n hx hb d_FM_load_85 rfl (lv_at hl 2 rfl) ?_
            refine fm_tw (z := nI (fm_s1 B a)) (congrArg nI (by unfold fm_s1; first | (rw [if_pos c_72]; done) | (rw [if_neg c_72]; done))) ?_
            refine fm_wv S (c_FO_resize l dC dI sp wb sb lb (nI (fm_nb (fm_tk b w2) 2)) (nI (fm_nb (fm_tk b w2) 3)) sz2 sc2 hv2 (fm_s1 B a) (by omega)) rfl rfl k_FO_resize q_2_134 ⟨Nat.le_of_ble_eq_true rfl, Nat.le_of_ble_eq_true rfl⟩ hP hD hS (hK.sub [] rfl) [3] (by decide) rfl 0 rfl rfl rfl hl.1 rfl (Nat.le_of_ble_eq_true rfl) ⟨Nat.zero_le _, Nat.zero_le _⟩ d_FM_load_86 [(h, .inr (3, [.ref bf, .ref li, .ref ra, .int (rl), .ref o, .ref sp, .int (ld)])), (bf, .inr (0, [.ref ba, .int (nI (n))])), (ba, .inl (cI, 2048, .inl (b))), (sp, .inr (1, [.ref wb, .ref sb, .ref lb, .int (nI (fm_nb (fm_tk b w2) 2)), .int (nI (fm_nb (fm_tk b w2) 3)), .int (nI ((fm_s1 B a))), .int (nI (fm_z (fm_s1 B a))), .int (nI (fm_h (fm_s1 B a)))])), (wb, .inl (cI, 2048, .inl (fm_tk b w2))), (sb, .inl (cI, 10, .inl (fm_cp (fm_sI (fm_tk b w2)) st2 10))), (lb, .inl (cI, 10, .inl (fm_cp (fm_ln (fm_tk b w2)) ln2 10))), (li, .inr (2, [.ref pa, .ref va, .ref na, .int (le), .int (co)]))] [0, 1, 2, 4, 5, 6, 7] rfl rfl (show ∀ i, i < 8 → i ∈ ([3] : List Nat) ∨ i ∈ ([0, 1, 2, 4, 5, 6, 7] : List Nat) by decide) (by decide) rfl (fun H locs hP hD hS => ?_)
            have hP : va_P (dC, dI) classes [(h, .inr (3, [.ref bf, .ref li, .ref ra, .int (rl), .ref o, .ref sp, .int (ld)])), (bf, .inr (0, [.ref ba, .int (nI (n))])), (ba, .inl (cI, 2048, .inl (b))), (sp, .inr (1, [.ref wb, .ref sb, .ref lb, .int (nI (fm_nb (fm_tk b w2) 2)), .int (nI (fm_nb (fm_tk b w2) 3)), .int (nI ((fm_s1 B a))), .int (nI (fm_z (fm_s1 B a))), .int (nI (fm_h (fm_s1 B a)))])), (wb, .inl (cI, 2048, .inl (fm_tk b w2))), (sb, .inl (cI, 10, .inl (fm_cp (fm_sI (fm_tk b w2)) st2 10))), (lb, .inl (cI, 10, .inl (fm_cp (fm_ln (fm_tk b w2)) ln2 10))), (li, .inr (2, [.ref pa, .ref va, .ref na, .int (le), .int (co)]))] _ := hP
            have hD : va_D A [(h, .inr (3, [.ref bf, .ref li, .ref ra, .int (rl), .ref o, .ref sp, .int (ld)])), (bf, .inr (0, [.ref ba, .int (nI (n))])), (ba, .inl (cI, 2048, .inl (b))), (sp, .inr (1, [.ref wb, .ref sb, .ref lb, .int (nI (fm_nb (fm_tk b w2) 2)), .int (nI (fm_nb (fm_tk b w2) 3)), .int (nI ((fm_s1 B a))), .int (nI (fm_z (fm_s1 B a))), .int (nI (fm_h (fm_s1 B a)))])), (wb, .inl (cI, 2048, .inl (fm_tk b w2))), (sb, .inl (cI, 10, .inl (fm_cp (fm_sI (fm_tk b w2)) st2 10))), (lb, .inl (cI, 10, .inl (fm_cp (fm_ln (fm_tk b w2)) ln2 10))), (li, .inr (2, [.ref pa, .ref va, .ref na, .int (le), .int (co)]))] := hD
            refine lv_aload_n hx hb d_FM_load_89 rfl (lv_at hl 1 rfl) ?_
            refine va_get (D := (dC, dI)) (ci := 3) (v := .ref o) (C := R_FM) (T := F_FM) (N := 7) hx hb ht i_FM hown hK hP 0 rfl rfl 4 (by decide) (ht _ q_1_103) (fun _ h9 => h9) rfl d_FM_load_90 ?_
            refine lv_astore_n (lv' := [(3, .ref o), (2, .int (nI (fm_parts B))), (0, .ref h), (1, .int (nI (a)))]) hx hb d_FM_load_93 rfl hl (by decide) rfl (fun ls hl => ?_)
            refine lv_aload_n hx hb d_FM_load_94 rfl (lv_at hl 2 rfl) ?_
            refine lv_aload_n hx hb d_FM_load_95 rfl (lv_at hl 2 rfl) ?_
            refine va_get (D := (dC, dI)) (ci := 3) (v := .ref sp) (C := R_FM) (T := F_FM) (N := 7) hx hb ht i_FM hown hK hP 0 rfl rfl 5 (by decide) (ht _ q_1_104) (fun _ h9 => h9) rfl d_FM_load_96 ?_
            refine va_put (D := (dC, dI)) (ci := 3) (v := .ref sp) (ty := .object "FontMetrics$Font") (C := R_FM) (T := F_FM) (N := 7) hx hb ht i_FM t_FM t_FM_ok n_FM hown hK hP hD hS 0 rfl rfl 4 (by decide) (ht _ q_1_103) (fun _ h9 => h9) rfl (by decide +kernel) (rfl) (rfl) (Nat.le_of_ble_eq_true rfl) d_FM_load_99 (fun H locs hP hD hS => ?_)
            have hP : va_P (dC, dI) classes [(h, .inr (3, [.ref bf, .ref li, .ref ra, .int (rl), .ref sp, .ref sp, .int (ld)])), (bf, .inr (0, [.ref ba, .int (nI (n))])), (ba, .inl (cI, 2048, .inl (b))), (sp, .inr (1, [.ref wb, .ref sb, .ref lb, .int (nI (fm_nb (fm_tk b w2) 2)), .int (nI (fm_nb (fm_tk b w2) 3)), .int (nI ((fm_s1 B a))), .int (nI (fm_z (fm_s1 B a))), .int (nI (fm_h (fm_s1 B a)))])), (wb, .inl (cI, 2048, .inl (fm_tk b w2))), (sb, .inl (cI, 10, .inl (fm_cp (fm_sI (fm_tk b w2)) st2 10))), (lb, .inl (cI, 10, .inl (fm_cp (fm_ln (fm_tk b w2)) ln2 10))), (li, .inr (2, [.ref pa, .ref va, .ref na, .int (le), .int (co)]))] _ := hP
            have hD : va_D A [(h, .inr (3, [.ref bf, .ref li, .ref ra, .int (rl), .ref sp, .ref sp, .int (ld)])), (bf, .inr (0, [.ref ba, .int (nI (n))])), (ba, .inl (cI, 2048, .inl (b))), (sp, .inr (1, [.ref wb, .ref sb, .ref lb, .int (nI (fm_nb (fm_tk b w2) 2)), .int (nI (fm_nb (fm_tk b w2) 3)), .int (nI ((fm_s1 B a))), .int (nI (fm_z (fm_s1 B a))), .int (nI (fm_h (fm_s1 B a)))])), (wb, .inl (cI, 2048, .inl (fm_tk b w2))), (sb, .inl (cI, 10, .inl (fm_cp (fm_sI (fm_tk b w2)) st2 10))), (lb, .inl (cI, 10, .inl (fm_cp (fm_ln (fm_tk b w2)) ln2 10))), (li, .inr (2, [.ref pa, .ref va, .ref na, .int (le), .int (co)]))] := hD
            refine lv_aload_n hx hb d_FM_load_102 rfl (lv_at hl 2 rfl) ?_
            refine lv_aload_n hx hb d_FM_load_103 rfl (lv_at hl 0 rfl) ?_
            refine va_put (D := (dC, dI)) (ci := 3) (v := .ref o) (ty := .object "FontMetrics$Font") (C := R_FM) (T := F_FM) (N := 7) hx hb ht i_FM t_FM t_FM_ok n_FM hown hK hP hD hS 0 rfl rfl 5 (by decide) (ht _ q_1_104) (fun _ h9 => h9) rfl (by decide +kernel) (rfl) (rfl) (Nat.le_of_ble_eq_true rfl) d_FM_load_104 (fun H locs hP hD hS => ?_)
            have hP : va_P (dC, dI) classes [(h, .inr (3, [.ref bf, .ref li, .ref ra, .int (rl), .ref sp, .ref o, .int (ld)])), (bf, .inr (0, [.ref ba, .int (nI (n))])), (ba, .inl (cI, 2048, .inl (b))), (sp, .inr (1, [.ref wb, .ref sb, .ref lb, .int (nI (fm_nb (fm_tk b w2) 2)), .int (nI (fm_nb (fm_tk b w2) 3)), .int (nI ((fm_s1 B a))), .int (nI (fm_z (fm_s1 B a))), .int (nI (fm_h (fm_s1 B a)))])), (wb, .inl (cI, 2048, .inl (fm_tk b w2))), (sb, .inl (cI, 10, .inl (fm_cp (fm_sI (fm_tk b w2)) st2 10))), (lb, .inl (cI, 10, .inl (fm_cp (fm_ln (fm_tk b w2)) ln2 10))), (li, .inr (2, [.ref pa, .ref va, .ref na, .int (le), .int (co)]))] _ := hP
            have hD : va_D A [(h, .inr (3, [.ref bf, .ref li, .ref ra, .int (rl), .ref sp, .ref o, .int (ld)])), (bf, .inr (0, [.ref ba, .int (nI (n))])), (ba, .inl (cI, 2048, .inl (b))), (sp, .inr (1, [.ref wb, .ref sb, .ref lb, .int (nI (fm_nb (fm_tk b w2) 2)), .int (nI (fm_nb (fm_tk b w2) 3)), .int (nI ((fm_s1 B a))), .int (nI (fm_z (fm_s1 B a))), .int (nI (fm_h (fm_s1 B a)))])), (wb, .inl (cI, 2048, .inl (fm_tk b w2))), (sb, .inl (cI, 10, .inl (fm_cp (fm_sI (fm_tk b w2)) st2 10))), (lb, .inl (cI, 10, .inl (fm_cp (fm_ln (fm_tk b w2)) ln2 10))), (li, .inr (2, [.ref pa, .ref va, .ref na, .int (le), .int (co)]))] := hD
            refine lv_aload_n hx hb d_FM_load_107 rfl (lv_at hl 2 rfl) ?_
            refine lv_iconst (v := nI (1)) hx hb d_FM_load_108 (by decide) ?_
            refine va_put (D := (dC, dI)) (ci := 3) (v := .int (nI (1))) (ty := .boolean) (C := R_FM) (T := F_FM) (N := 7) hx hb ht i_FM t_FM t_FM_ok n_FM hown hK hP hD hS 0 rfl rfl 6 (by decide) (ht _ q_1_105) (fun _ h9 => h9) rfl (by decide +kernel) (rfl) (rfl) (Nat.le_of_ble_eq_true rfl) d_FM_load_109 (fun H locs hP hD hS => ?_)
            have hP : va_P (dC, dI) classes [(h, .inr (3, [.ref bf, .ref li, .ref ra, .int (rl), .ref sp, .ref o, .int (nI (1))])), (bf, .inr (0, [.ref ba, .int (nI (n))])), (ba, .inl (cI, 2048, .inl (b))), (sp, .inr (1, [.ref wb, .ref sb, .ref lb, .int (nI (fm_nb (fm_tk b w2) 2)), .int (nI (fm_nb (fm_tk b w2) 3)), .int (nI ((fm_s1 B a))), .int (nI (fm_z (fm_s1 B a))), .int (nI (fm_h (fm_s1 B a)))])), (wb, .inl (cI, 2048, .inl (fm_tk b w2))), (sb, .inl (cI, 10, .inl (fm_cp (fm_sI (fm_tk b w2)) st2 10))), (lb, .inl (cI, 10, .inl (fm_cp (fm_ln (fm_tk b w2)) ln2 10))), (li, .inr (2, [.ref pa, .ref va, .ref na, .int (le), .int (co)]))] _ := hP
            have hD : va_D A [(h, .inr (3, [.ref bf, .ref li, .ref ra, .int (rl), .ref sp, .ref o, .int (nI (1))])), (bf, .inr (0, [.ref ba, .int (nI (n))])), (ba, .inl (cI, 2048, .inl (b))), (sp, .inr (1, [.ref wb, .ref sb, .ref lb, .int (nI (fm_nb (fm_tk b w2) 2)), .int (nI (fm_nb (fm_tk b w2) 3)), .int (nI ((fm_s1 B a))), .int (nI (fm_z (fm_s1 B a))), .int (nI (fm_h (fm_s1 B a)))])), (wb, .inl (cI, 2048, .inl (fm_tk b w2))), (sb, .inl (cI, 10, .inl (fm_cp (fm_sI (fm_tk b w2)) st2 10))), (lb, .inl (cI, 10, .inl (fm_cp (fm_ln (fm_tk b w2)) ln2 10))), (li, .inr (2, [.ref pa, .ref va, .ref na, .int (le), .int (co)]))] := hD
            refine lv_aload_n hx hb d_FM_load_112 rfl (lv_at hl 2 rfl) ?_
            refine va_get (D := (dC, dI)) (ci := 3) (v := .ref li) (C := R_FM) (T := F_FM) (N := 7) hx hb ht i_FM hown hK hP 0 rfl rfl 1 (by decide) (ht _ q_1_100) (fun _ h9 => h9) rfl d_FM_load_113 ?_
            refine fm_wv S (c_LI_clear l dC dI li pa va na le co ) rfl rfl k_LI_clear q_2_139 ⟨Nat.le_of_ble_eq_true rfl, Nat.le_of_ble_eq_true rfl⟩ hP hD hS (hK.sub [] rfl) [7] (by decide) rfl 0 rfl rfl rfl hl.1 rfl (Nat.le_of_ble_eq_true rfl) ⟨Nat.zero_le _, Nat.zero_le _⟩ d_FM_load_116 [(h, .inr (3, [.ref bf, .ref li, .ref ra, .int (rl), .ref sp, .ref o, .int (nI (1))])), (bf, .inr (0, [.ref ba, .int (nI (n))])), (ba, .inl (cI, 2048, .inl (b))), (sp, .inr (1, [.ref wb, .ref sb, .ref lb, .int (nI (fm_nb (fm_tk b w2) 2)), .int (nI (fm_nb (fm_tk b w2) 3)), .int (nI ((fm_s1 B a))), .int (nI (fm_z (fm_s1 B a))), .int (nI (fm_h (fm_s1 B a)))])), (wb, .inl (cI, 2048, .inl (fm_tk b w2))), (sb, .inl (cI, 10, .inl (fm_cp (fm_sI (fm_tk b w2)) st2 10))), (lb, .inl (cI, 10, .inl (fm_cp (fm_ln (fm_tk b w2)) ln2 10))), (li, .inr (2, [.ref pa, .ref va, .ref na, .int (nI (0)), .int (nI (0))]))] [0, 1, 2, 3, 4, 5, 6] rfl rfl (show ∀ i, i < 8 → i ∈ ([7] : List Nat) ∨ i ∈ ([0, 1, 2, 3, 4, 5, 6] : List Nat) by decide) (by decide) rfl (fun H locs hP hD hS => ?_)
            have hP : va_P (dC, dI) classes [(h, .inr (3, [.ref bf, .ref li, .ref ra, .int (rl), .ref sp, .ref o, .int (nI (1))])), (bf, .inr (0, [.ref ba, .int (nI (n))])), (ba, .inl (cI, 2048, .inl (b))), (sp, .inr (1, [.ref wb, .ref sb, .ref lb, .int (nI (fm_nb (fm_tk b w2) 2)), .int (nI (fm_nb (fm_tk b w2) 3)), .int (nI ((fm_s1 B a))), .int (nI (fm_z (fm_s1 B a))), .int (nI (fm_h (fm_s1 B a)))])), (wb, .inl (cI, 2048, .inl (fm_tk b w2))), (sb, .inl (cI, 10, .inl (fm_cp (fm_sI (fm_tk b w2)) st2 10))), (lb, .inl (cI, 10, .inl (fm_cp (fm_ln (fm_tk b w2)) ln2 10))), (li, .inr (2, [.ref pa, .ref va, .ref na, .int (nI (0)), .int (nI (0))]))] _ := hP
            have hD : va_D A [(h, .inr (3, [.ref bf, .ref li, .ref ra, .int (rl), .ref sp, .ref o, .int (nI (1))])), (bf, .inr (0, [.ref ba, .int (nI (n))])), (ba, .inl (cI, 2048, .inl (b))), (sp, .inr (1, [.ref wb, .ref sb, .ref lb, .int (nI (fm_nb (fm_tk b w2) 2)), .int (nI (fm_nb (fm_tk b w2) 3)), .int (nI ((fm_s1 B a))), .int (nI (fm_z (fm_s1 B a))), .int (nI (fm_h (fm_s1 B a)))])), (wb, .inl (cI, 2048, .inl (fm_tk b w2))), (sb, .inl (cI, 10, .inl (fm_cp (fm_sI (fm_tk b w2)) st2 10))), (lb, .inl (cI, 10, .inl (fm_cp (fm_ln (fm_tk b w2)) ln2 10))), (li, .inr (2, [.ref pa, .ref va, .ref na, .int (nI (0)), .int (nI (0))]))] := hD
            refine lv_iconst (v := nI (0)) hx hb d_FM_load_119 (by decide) ?_
            exact W.iret hx hb hr (fun t ht hW => ⟨congrArg (fun z => Outcome.returned (some (Value.int z))) (rfl), by rw [ht]; exact hP, hS.F ht⟩) hS.2.2 d_FM_load_120
          · have c_72 : a = 0 := (nI_eq (a := a) (b := 0) (by omega) (by omega)).mp c0
            rw [e2, e3] at hP hD
            have hP : va_P (dC, dI) classes [(h, .inr (3, [.ref bf, .ref li, .ref ra, .int (rl), .ref o, .ref sp, .int (ld)])), (bf, .inr (0, [.ref ba, .int (nI (n))])), (ba, .inl (cI, 2048, .inl (b))), (sp, .inr (1, [.ref wb, .ref sb, .ref lb, .int (nI (fm_HF B 2)), .int (nI (fm_HF B 3)), .int (sz2), .int (sc2), .int (hv2)])), (wb, .inl (cI, 2048, .inl (fm_tk b w2))), (sb, .inl (cI, 10, .inl (fm_cp (fm_sI (fm_tk b w2)) st2 10))), (lb, .inl (cI, 10, .inl (fm_cp (fm_ln (fm_tk b w2)) ln2 10))), (li, .inr (2, [.ref pa, .ref va, .ref na, .int (le), .int (co)]))] _ := hP
            have hD : va_D A [(h, .inr (3, [.ref bf, .ref li, .ref ra, .int (rl), .ref o, .ref sp, .int (ld)])), (bf, .inr (0, [.ref ba, .int (nI (n))])), (ba, .inl (cI, 2048, .inl (b))), (sp, .inr (1, [.ref wb, .ref sb, .ref lb, .int (nI (fm_HF B 2)), .int (nI (fm_HF B 3)), .int (sz2), .int (sc2), .int (hv2)])), (wb, .inl (cI, 2048, .inl (fm_tk b w2))), (sb, .inl (cI, 10, .inl (fm_cp (fm_sI (fm_tk b w2)) st2 10))), (lb, .inl (cI, 10, .inl (fm_cp (fm_ln (fm_tk b w2)) ln2 10))), (li, .inr (2, [.ref pa, .ref va, .ref na, .int (le), .int (co)]))] := hD
            refine lv_aload_n hx hb d_FM_load_75 rfl (lv_at hl 1 rfl) ?_
            refine va_get (D := (dC, dI)) (ci := 3) (v := .ref sp) (C := R_FM) (T := F_FM) (N := 7) hx hb ht i_FM hown hK hP 0 rfl rfl 5 (by decide) (ht _ q_1_104) (fun _ h9 => h9) rfl d_FM_load_76 ?_
            refine fm_cv S (c_FO_designSize l dC dI sp wb sb lb sz2 sc2 hv2 cI B (fm_tk b w2) (fm_cp (fm_sI (fm_tk b w2)) st2 10) (fm_cp (fm_ln (fm_tk b w2)) ln2 10) (hFO) (hd0)) rfl rfl k_FO_designSize q_2_130 ⟨Nat.le_of_ble_eq_true rfl, Nat.le_of_ble_eq_true rfl⟩ (hP.sub [3, 4, 5, 6] rfl) (hK.sub [0] rfl) 0 rfl rfl rfl hl.1 rfl (Nat.le_of_ble_eq_true rfl) ⟨Nat.zero_le _, Nat.zero_le _⟩ d_FM_load_79 ?_
            rw [← e2, ← e3] at hP hD
            have hP : va_P (dC, dI) classes [(h, .inr (3, [.ref bf, .ref li, .ref ra, .int (rl), .ref o, .ref sp, .int (ld)])), (bf, .inr (0, [.ref ba, .int (nI (n))])), (ba, .inl (cI, 2048, .inl (b))), (sp, .inr (1, [.ref wb, .ref sb, .ref lb, .int (nI (fm_nb (fm_tk b w2) 2)), .int (nI (fm_nb (fm_tk b w2) 3)), .int (sz2), .int (sc2), .int (hv2)])), (wb, .inl (cI, 2048, .inl (fm_tk b w2))), (sb, .inl (cI, 10, .inl (fm_cp (fm_sI (fm_tk b w2)) st2 10))), (lb, .inl (cI, 10, .inl (fm_cp (fm_ln (fm_tk b w2)) ln2 10))), (li, .inr (2, [.ref pa, .ref va, .ref na, .int (le), .int (co)]))] _ := hP
            have hD : va_D A [(h, .inr (3, [.ref bf, .ref li, .ref ra, .int (rl), .ref o, .ref sp, .int (ld)])), (bf, .inr (0, [.ref ba, .int (nI (n))])), (ba, .inl (cI, 2048, .inl (b))), (sp, .inr (1, [.ref wb, .ref sb, .ref lb, .int (nI (fm_nb (fm_tk b w2) 2)), .int (nI (fm_nb (fm_tk b w2) 3)), .int (sz2), .int (sc2), .int (hv2)])), (wb, .inl (cI, 2048, .inl (fm_tk b w2))), (sb, .inl (cI, 10, .inl (fm_cp (fm_sI (fm_tk b w2)) st2 10))), (lb, .inl (cI, 10, .inl (fm_cp (fm_ln (fm_tk b w2)) ln2 10))), (li, .inr (2, [.ref pa, .ref va, .ref na, .int (le), .int (co)]))] := hD
            refine fm_tw (z := nI (fm_WO B 7 / 16)) (hds3) ?_
            refine lv_goto (tgt := 86) hx hb d_FM_load_82 (by decide) ?_
            refine fm_tw (z := nI (fm_s1 B a)) (congrArg nI (by unfold fm_s1; first | (rw [if_pos c_72]; done) | (rw [if_neg c_72]; done))) ?_
            refine fm_wv S (c_FO_resize l dC dI sp wb sb lb (nI (fm_nb (fm_tk b w2) 2)) (nI (fm_nb (fm_tk b w2) 3)) sz2 sc2 hv2 (fm_s1 B a) (by omega)) rfl rfl k_FO_resize q_2_134 ⟨Nat.le_of_ble_eq_true rfl, Nat.le_of_ble_eq_true rfl⟩ hP hD hS (hK.sub [] rfl) [3] (by decide) rfl 0 rfl rfl rfl hl.1 rfl (Nat.le_of_ble_eq_true rfl) ⟨Nat.zero_le _, Nat.zero_le _⟩ d_FM_load_86 [(h, .inr (3, [.ref bf, .ref li, .ref ra, .int (rl), .ref o, .ref sp, .int (ld)])), (bf, .inr (0, [.ref ba, .int (nI (n))])), (ba, .inl (cI, 2048, .inl (b))), (sp, .inr (1, [.ref wb, .ref sb, .ref lb, .int (nI (fm_nb (fm_tk b w2) 2)), .int (nI (fm_nb (fm_tk b w2) 3)), .int (nI ((fm_s1 B a))), .int (nI (fm_z (fm_s1 B a))), .int (nI (fm_h (fm_s1 B a)))])), (wb, .inl (cI, 2048, .inl (fm_tk b w2))), (sb, .inl (cI, 10, .inl (fm_cp (fm_sI (fm_tk b w2)) st2 10))), (lb, .inl (cI, 10, .inl (fm_cp (fm_ln (fm_tk b w2)) ln2 10))), (li, .inr (2, [.ref pa, .ref va, .ref na, .int (le), .int (co)]))] [0, 1, 2, 4, 5, 6, 7] rfl rfl (show ∀ i, i < 8 → i ∈ ([3] : List Nat) ∨ i ∈ ([0, 1, 2, 4, 5, 6, 7] : List Nat) by decide) (by decide) rfl (fun H locs hP hD hS => ?_)
            have hP : va_P (dC, dI) classes [(h, .inr (3, [.ref bf, .ref li, .ref ra, .int (rl), .ref o, .ref sp, .int (ld)])), (bf, .inr (0, [.ref ba, .int (nI (n))])), (ba, .inl (cI, 2048, .inl (b))), (sp, .inr (1, [.ref wb, .ref sb, .ref lb, .int (nI (fm_nb (fm_tk b w2) 2)), .int (nI (fm_nb (fm_tk b w2) 3)), .int (nI ((fm_s1 B a))), .int (nI (fm_z (fm_s1 B a))), .int (nI (fm_h (fm_s1 B a)))])), (wb, .inl (cI, 2048, .inl (fm_tk b w2))), (sb, .inl (cI, 10, .inl (fm_cp (fm_sI (fm_tk b w2)) st2 10))), (lb, .inl (cI, 10, .inl (fm_cp (fm_ln (fm_tk b w2)) ln2 10))), (li, .inr (2, [.ref pa, .ref va, .ref na, .int (le), .int (co)]))] _ := hP
            have hD : va_D A [(h, .inr (3, [.ref bf, .ref li, .ref ra, .int (rl), .ref o, .ref sp, .int (ld)])), (bf, .inr (0, [.ref ba, .int (nI (n))])), (ba, .inl (cI, 2048, .inl (b))), (sp, .inr (1, [.ref wb, .ref sb, .ref lb, .int (nI (fm_nb (fm_tk b w2) 2)), .int (nI (fm_nb (fm_tk b w2) 3)), .int (nI ((fm_s1 B a))), .int (nI (fm_z (fm_s1 B a))), .int (nI (fm_h (fm_s1 B a)))])), (wb, .inl (cI, 2048, .inl (fm_tk b w2))), (sb, .inl (cI, 10, .inl (fm_cp (fm_sI (fm_tk b w2)) st2 10))), (lb, .inl (cI, 10, .inl (fm_cp (fm_ln (fm_tk b w2)) ln2 10))), (li, .inr (2, [.ref pa, .ref va, .ref na, .int (le), .int (co)]))] := hD
            refine lv_aload_n hx hb d_FM_load_89 rfl (lv_at hl 1 rfl) ?_
            refine va_get (D := (dC, dI)) (ci := 3) (v := .ref o) (C := R_FM) (T := F_FM) (N := 7) hx hb ht i_FM hown hK hP 0 rfl rfl 4 (by decide) (ht _ q_1_103) (fun _ h9 => h9) rfl d_FM_load_90 ?_
            refine lv_astore_n (lv' := [(3, .ref o), (2, .int (nI (fm_parts B))), (0, .ref h), (1, .int (nI (a)))]) hx hb d_FM_load_93 rfl hl (by decide) rfl (fun ls hl => ?_)
            refine lv_aload_n hx hb d_FM_load_94 rfl (lv_at hl 2 rfl) ?_
            refine lv_aload_n hx hb d_FM_load_95 rfl (lv_at hl 2 rfl) ?_
            refine va_get (D := (dC, dI)) (ci := 3) (v := .ref sp) (C := R_FM) (T := F_FM) (N := 7) hx hb ht i_FM hown hK hP 0 rfl rfl 5 (by decide) (ht _ q_1_104) (fun _ h9 => h9) rfl d_FM_load_96 ?_
            refine va_put (D := (dC, dI)) (ci := 3) (v := .ref sp) (ty := .object "FontMetrics$Font") (C := R_FM) (T := F_FM) (N := 7) hx hb ht i_FM t_FM t_FM_ok n_FM hown hK hP hD hS 0 rfl rfl 4 (by decide) (ht _ q_1_103) (fun _ h9 => h9) rfl (by decide +kernel) (rfl) (rfl) (Nat.le_of_ble_eq_true rfl) d_FM_load_99 (fun H locs hP hD hS => ?_)
            have hP : va_P (dC, dI) classes [(h, .inr (3, [.ref bf, .ref li, .ref ra, .int (rl), .ref sp, .ref sp, .int (ld)])), (bf, .inr (0, [.ref ba, .int (nI (n))])), (ba, .inl (cI, 2048, .inl (b))), (sp, .inr (1, [.ref wb, .ref sb, .ref lb, .int (nI (fm_nb (fm_tk b w2) 2)), .int (nI (fm_nb (fm_tk b w2) 3)), .int (nI ((fm_s1 B a))), .int (nI (fm_z (fm_s1 B a))), .int (nI (fm_h (fm_s1 B a)))])), (wb, .inl (cI, 2048, .inl (fm_tk b w2))), (sb, .inl (cI, 10, .inl (fm_cp (fm_sI (fm_tk b w2)) st2 10))), (lb, .inl (cI, 10, .inl (fm_cp (fm_ln (fm_tk b w2)) ln2 10))), (li, .inr (2, [.ref pa, .ref va, .ref na, .int (le), .int (co)]))] _ := hP
            have hD : va_D A [(h, .inr (3, [.ref bf, .ref li, .ref ra, .int (rl), .ref sp, .ref sp, .int (ld)])), (bf, .inr (0, [.ref ba, .int (nI (n))])), (ba, .inl (cI, 2048, .inl (b))), (sp, .inr (1, [.ref wb, .ref sb, .ref lb, .int (nI (fm_nb (fm_tk b w2) 2)), .int (nI (fm_nb (fm_tk b w2) 3)), .int (nI ((fm_s1 B a))), .int (nI (fm_z (fm_s1 B a))), .int (nI (fm_h (fm_s1 B a)))])), (wb, .inl (cI, 2048, .inl (fm_tk b w2))), (sb, .inl (cI, 10, .inl (fm_cp (fm_sI (fm_tk b w2)) st2 10))), (lb, .inl (cI, 10, .inl (fm_cp (fm_ln (fm_tk b w2)) ln2 10))), (li, .inr (2, [.ref pa, .ref va, .ref na, .int (le), .int (co)]))] := hD
            refine lv_aload_n hx hb d_FM_load_102 rfl (lv_at hl 2 rfl) ?_
            refine lv_aload_n hx hb d_FM_load_103 rfl (lv_at hl 0 rfl) ?_
            refine va_put (D := (dC, dI)) (ci := 3) (v := .ref o) (ty := .object "FontMetrics$Font") (C := R_FM) (T := F_FM) (N := 7) hx hb ht i_FM t_FM t_FM_ok n_FM hown hK hP hD hS 0 rfl rfl 5 (by decide) (ht _ q_1_104) (fun _ h9 => h9) rfl (by decide +kernel) (rfl) (rfl) (Nat.le_of_ble_eq_true rfl) d_FM_load_104 (fun H locs hP hD hS => ?_)
            have hP : va_P (dC, dI) classes [(h, .inr (3, [.ref bf, .ref li, .ref ra, .int (rl), .ref sp, .ref o, .int (ld)])), (bf, .inr (0, [.ref ba, .int (nI (n))])), (ba, .inl (cI, 2048, .inl (b))), (sp, .inr (1, [.ref wb, .ref sb, .ref lb, .int (nI (fm_nb (fm_tk b w2) 2)), .int (nI (fm_nb (fm_tk b w2) 3)), .int (nI ((fm_s1 B a))), .int (nI (fm_z (fm_s1 B a))), .int (nI (fm_h (fm_s1 B a)))])), (wb, .inl (cI, 2048, .inl (fm_tk b w2))), (sb, .inl (cI, 10, .inl (fm_cp (fm_sI (fm_tk b w2)) st2 10))), (lb, .inl (cI, 10, .inl (fm_cp (fm_ln (fm_tk b w2)) ln2 10))), (li, .inr (2, [.ref pa, .ref va, .ref na, .int (le), .int (co)]))] _ := hP
            have hD : va_D A [(h, .inr (3, [.ref bf, .ref li, .ref ra, .int (rl), .ref sp, .ref o, .int (ld)])), (bf, .inr (0, [.ref ba, .int (nI (n))])), (ba, .inl (cI, 2048, .inl (b))), (sp, .inr (1, [.ref wb, .ref sb, .ref lb, .int (nI (fm_nb (fm_tk b w2) 2)), .int (nI (fm_nb (fm_tk b w2) 3)), .int (nI ((fm_s1 B a))), .int (nI (fm_z (fm_s1 B a))), .int (nI (fm_h (fm_s1 B a)))])), (wb, .inl (cI, 2048, .inl (fm_tk b w2))), (sb, .inl (cI, 10, .inl (fm_cp (fm_sI (fm_tk b w2)) st2 10))), (lb, .inl (cI, 10, .inl (fm_cp (fm_ln (fm_tk b w2)) ln2 10))), (li, .inr (2, [.ref pa, .ref va, .ref na, .int (le), .int (co)]))] := hD
            refine lv_aload_n hx hb d_FM_load_107 rfl (lv_at hl 2 rfl) ?_
            refine lv_iconst (v := nI (1)) hx hb d_FM_load_108 (by decide) ?_
            refine va_put (D := (dC, dI)) (ci := 3) (v := .int (nI (1))) (ty := .boolean) (C := R_FM) (T := F_FM) (N := 7) hx hb ht i_FM t_FM t_FM_ok n_FM hown hK hP hD hS 0 rfl rfl 6 (by decide) (ht _ q_1_105) (fun _ h9 => h9) rfl (by decide +kernel) (rfl) (rfl) (Nat.le_of_ble_eq_true rfl) d_FM_load_109 (fun H locs hP hD hS => ?_)
            have hP : va_P (dC, dI) classes [(h, .inr (3, [.ref bf, .ref li, .ref ra, .int (rl), .ref sp, .ref o, .int (nI (1))])), (bf, .inr (0, [.ref ba, .int (nI (n))])), (ba, .inl (cI, 2048, .inl (b))), (sp, .inr (1, [.ref wb, .ref sb, .ref lb, .int (nI (fm_nb (fm_tk b w2) 2)), .int (nI (fm_nb (fm_tk b w2) 3)), .int (nI ((fm_s1 B a))), .int (nI (fm_z (fm_s1 B a))), .int (nI (fm_h (fm_s1 B a)))])), (wb, .inl (cI, 2048, .inl (fm_tk b w2))), (sb, .inl (cI, 10, .inl (fm_cp (fm_sI (fm_tk b w2)) st2 10))), (lb, .inl (cI, 10, .inl (fm_cp (fm_ln (fm_tk b w2)) ln2 10))), (li, .inr (2, [.ref pa, .ref va, .ref na, .int (le), .int (co)]))] _ := hP
            have hD : va_D A [(h, .inr (3, [.ref bf, .ref li, .ref ra, .int (rl), .ref sp, .ref o, .int (nI (1))])), (bf, .inr (0, [.ref ba, .int (nI (n))])), (ba, .inl (cI, 2048, .inl (b))), (sp, .inr (1, [.ref wb, .ref sb, .ref lb, .int (nI (fm_nb (fm_tk b w2) 2)), .int (nI (fm_nb (fm_tk b w2) 3)), .int (nI ((fm_s1 B a))), .int (nI (fm_z (fm_s1 B a))), .int (nI (fm_h (fm_s1 B a)))])), (wb, .inl (cI, 2048, .inl (fm_tk b w2))), (sb, .inl (cI, 10, .inl (fm_cp (fm_sI (fm_tk b w2)) st2 10))), (lb, .inl (cI, 10, .inl (fm_cp (fm_ln (fm_tk b w2)) ln2 10))), (li, .inr (2, [.ref pa, .ref va, .ref na, .int (le), .int (co)]))] := hD
            refine lv_aload_n hx hb d_FM_load_112 rfl (lv_at hl 2 rfl) ?_
            refine va_get (D := (dC, dI)) (ci := 3) (v := .ref li) (C := R_FM) (T := F_FM) (N := 7) hx hb ht i_FM hown hK hP 0 rfl rfl 1 (by decide) (ht _ q_1_100) (fun _ h9 => h9) rfl d_FM_load_113 ?_
            refine fm_wv S (c_LI_clear l dC dI li pa va na le co ) rfl rfl k_LI_clear q_2_139 ⟨Nat.le_of_ble_eq_true rfl, Nat.le_of_ble_eq_true rfl⟩ hP hD hS (hK.sub [] rfl) [7] (by decide) rfl 0 rfl rfl rfl hl.1 rfl (Nat.le_of_ble_eq_true rfl) ⟨Nat.zero_le _, Nat.zero_le _⟩ d_FM_load_116 [(h, .inr (3, [.ref bf, .ref li, .ref ra, .int (rl), .ref sp, .ref o, .int (nI (1))])), (bf, .inr (0, [.ref ba, .int (nI (n))])), (ba, .inl (cI, 2048, .inl (b))), (sp, .inr (1, [.ref wb, .ref sb, .ref lb, .int (nI (fm_nb (fm_tk b w2) 2)), .int (nI (fm_nb (fm_tk b w2) 3)), .int (nI ((fm_s1 B a))), .int (nI (fm_z (fm_s1 B a))), .int (nI (fm_h (fm_s1 B a)))])), (wb, .inl (cI, 2048, .inl (fm_tk b w2))), (sb, .inl (cI, 10, .inl (fm_cp (fm_sI (fm_tk b w2)) st2 10))), (lb, .inl (cI, 10, .inl (fm_cp (fm_ln (fm_tk b w2)) ln2 10))), (li, .inr (2, [.ref pa, .ref va, .ref na, .int (nI (0)), .int (nI (0))]))] [0, 1, 2, 3, 4, 5, 6] rfl rfl (show ∀ i, i < 8 → i ∈ ([7] : List Nat) ∨ i ∈ ([0, 1, 2, 3, 4, 5, 6] : List Nat) by decide) (by decide) rfl (fun H locs hP hD hS => ?_)
            have hP : va_P (dC, dI) classes [(h, .inr (3, [.ref bf, .ref li, .ref ra, .int (rl), .ref sp, .ref o, .int (nI (1))])), (bf, .inr (0, [.ref ba, .int (nI (n))])), (ba, .inl (cI, 2048, .inl (b))), (sp, .inr (1, [.ref wb, .ref sb, .ref lb, .int (nI (fm_nb (fm_tk b w2) 2)), .int (nI (fm_nb (fm_tk b w2) 3)), .int (nI ((fm_s1 B a))), .int (nI (fm_z (fm_s1 B a))), .int (nI (fm_h (fm_s1 B a)))])), (wb, .inl (cI, 2048, .inl (fm_tk b w2))), (sb, .inl (cI, 10, .inl (fm_cp (fm_sI (fm_tk b w2)) st2 10))), (lb, .inl (cI, 10, .inl (fm_cp (fm_ln (fm_tk b w2)) ln2 10))), (li, .inr (2, [.ref pa, .ref va, .ref na, .int (nI (0)), .int (nI (0))]))] _ := hP
            have hD : va_D A [(h, .inr (3, [.ref bf, .ref li, .ref ra, .int (rl), .ref sp, .ref o, .int (nI (1))])), (bf, .inr (0, [.ref ba, .int (nI (n))])), (ba, .inl (cI, 2048, .inl (b))), (sp, .inr (1, [.ref wb, .ref sb, .ref lb, .int (nI (fm_nb (fm_tk b w2) 2)), .int (nI (fm_nb (fm_tk b w2) 3)), .int (nI ((fm_s1 B a))), .int (nI (fm_z (fm_s1 B a))), .int (nI (fm_h (fm_s1 B a)))])), (wb, .inl (cI, 2048, .inl (fm_tk b w2))), (sb, .inl (cI, 10, .inl (fm_cp (fm_sI (fm_tk b w2)) st2 10))), (lb, .inl (cI, 10, .inl (fm_cp (fm_ln (fm_tk b w2)) ln2 10))), (li, .inr (2, [.ref pa, .ref va, .ref na, .int (nI (0)), .int (nI (0))]))] := hD
            refine lv_iconst (v := nI (0)) hx hb d_FM_load_119 (by decide) ?_
            exact W.iret hx hb hr (fun t ht hW => ⟨congrArg (fun z => Outcome.returned (some (Value.int z))) (rfl), by rw [ht]; exact hP, hS.F ht⟩) hS.2.2 d_FM_load_120
        · have c_62 : ¬ (fm_parts B = 0) := fun z => c0 ((nI_eq (a := fm_parts B) (b := 0) (by omega) (by omega)).mpr z)
          exact absurd (by rw [fm_fault_eq, if_pos c_50] at hft; exact hft) c_62
    · have c_7 : ¬ (a ≤ 134217727) := fun z => c0 ((nI_leI (a := a) (b := 134217727) (by omega) (by omega)).mpr z)
      exact absurd ha c_7
