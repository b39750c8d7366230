theorem d_MO_areNumbersSmall_0 : decode b_MO_areNumbersSmall 0 = .ok (.aload_n 0, 1) := by decide +kernel
theorem d_MO_areNumbersSmall_1 : decode b_MO_areNumbersSmall 1 = .ok (.getfield 30, 3) := by decide +kernel
theorem d_MO_areNumbersSmall_4 : decode b_MO_areNumbersSmall 4 = .ok (.bipush 24, 2) := by decide +kernel
theorem d_MO_areNumbersSmall_6 : decode b_MO_areNumbersSmall 6 = .ok (.if_icmp .lt 7, 3) := by decide +kernel
theorem d_MO_areNumbersSmall_9 : decode b_MO_areNumbersSmall 9 = .ok (.iconst 1, 1) := by decide +kernel
theorem d_MO_areNumbersSmall_10 : decode b_MO_areNumbersSmall 10 = .ok (.goto 4, 3) := by decide +kernel
theorem d_MO_areNumbersSmall_13 : decode b_MO_areNumbersSmall 13 = .ok (.iconst 0, 1) := by decide +kernel
theorem d_MO_areNumbersSmall_14 : decode b_MO_areNumbersSmall 14 = .ok (.istore_n 1, 1) := by decide +kernel
theorem d_MO_areNumbersSmall_15 : decode b_MO_areNumbersSmall 15 = .ok (.iconst 0, 1) := by decide +kernel
theorem d_MO_areNumbersSmall_16 : decode b_MO_areNumbersSmall 16 = .ok (.istore_n 2, 1) := by decide +kernel
theorem d_MO_areNumbersSmall_17 : decode b_MO_areNumbersSmall 17 = .ok (.iload_n 2, 1) := by decide +kernel
theorem d_MO_areNumbersSmall_18 : decode b_MO_areNumbersSmall 18 = .ok (.bipush 12, 2) := by decide +kernel
theorem d_MO_areNumbersSmall_20 : decode b_MO_areNumbersSmall 20 = .ok (.if_icmp .ge 33, 3) := by decide +kernel
theorem d_MO_areNumbersSmall_23 : decode b_MO_areNumbersSmall 23 = .ok (.iload_n 1, 1) := by decide +kernel
theorem d_MO_areNumbersSmall_24 : decode b_MO_areNumbersSmall 24 = .ok (.ifCond .eq 29, 3) := by decide +kernel
theorem d_MO_areNumbersSmall_27 : decode b_MO_areNumbersSmall 27 = .ok (.aload_n 0, 1) := by decide +kernel
theorem d_MO_areNumbersSmall_28 : decode b_MO_areNumbersSmall 28 = .ok (.getfield 7, 3) := by decide +kernel
theorem d_MO_areNumbersSmall_31 : decode b_MO_areNumbersSmall 31 = .ok (.iload_n 2, 1) := by decide +kernel
theorem d_MO_areNumbersSmall_32 : decode b_MO_areNumbersSmall 32 = .ok (.invokestatic 33, 3) := by decide +kernel
theorem d_MO_areNumbersSmall_35 : decode b_MO_areNumbersSmall 35 = .ok (.sipush 32767, 3) := by decide +kernel
theorem d_MO_areNumbersSmall_38 : decode b_MO_areNumbersSmall 38 = .ok (.if_icmp .gt 7, 3) := by decide +kernel
theorem d_MO_areNumbersSmall_41 : decode b_MO_areNumbersSmall 41 = .ok (.iconst 1, 1) := by decide +kernel
theorem d_MO_areNumbersSmall_42 : decode b_MO_areNumbersSmall 42 = .ok (.goto 4, 3) := by decide +kernel
theorem d_MO_areNumbersSmall_45 : decode b_MO_areNumbersSmall 45 = .ok (.iconst 0, 1) := by decide +kernel
theorem d_MO_areNumbersSmall_46 : decode b_MO_areNumbersSmall 46 = .ok (.istore_n 1, 1) := by decide +kernel
theorem d_MO_areNumbersSmall_47 : decode b_MO_areNumbersSmall 47 = .ok (.iinc 2 1, 3) := by decide +kernel
theorem d_MO_areNumbersSmall_50 : decode b_MO_areNumbersSmall 50 = .ok (.goto (-33), 3) := by decide +kernel
theorem d_MO_areNumbersSmall_53 : decode b_MO_areNumbersSmall 53 = .ok (.iload_n 1, 1) := by decide +kernel
theorem d_MO_areNumbersSmall_54 : decode b_MO_areNumbersSmall 54 = .ok (.ireturn, 1) := by decide +kernel
set_option maxHeartbeats 4000000 in
set_option maxRecDepth 100000 in
theorem c_MO_areNumbersSmall (l : Launch) (dC : Nat → ClassId) (dI : Nat → Nat → Nat) (h : Nat) (th : Int32) (fa : Nat) (n : Nat) (ga : Nat) (ld : Int32) (sz : Int32) (ra : Nat) (rz : Int32) (ka : Nat) (wa : Nat) (ct : Int32) (cB : ClassId) (f : Nat → Int32) (hn : n ≤ 8192) : fm_M l (dC, dI) y_MO_areNumbersSmall w_MO_areNumbersSmall ({ frames := 1, cells := 0, slots := 0, locals := 21 }) [.ref h] [(h, .inr (4, [.int (th), .ref fa, .int (nI (n)), .ref ga, .int (ld), .int (sz), .ref ra, .int (rz), .ref ka, .ref wa, .int (ct)])), (fa, .inl (cB, 8192, .inl (f)))] [(cB, .byte)] ((fm_bI (fm_small (fm_RB f) n))) := by
  refine Met.ofW (cc := b_MO_areNumbersSmall) (maxL := 3) (ret := (some .boolean)) (by decide) rfl ?_
  intro pg ev s m args below meth cd s₁ BD hml hv
  obtain ⟨rfl, hP, hK⟩ := hv
  have hx := BD.exec
  have hb := BD.bytes
  have hr := BD.returns
  have hts := atoms_spec (ws := w_MO_areNumbersSmall) BD.pre
  have ht : ∀ w ∈ fm_T, w.before _ s = true := fun w h => hts w (List.mem_cons_of_mem _ h)
  have hown : s.vm.findClass R_MO = some m.cls := findClass_of_methodNamed BD.named
  have hlocks := BD.notSynchronized
  have S : CallFix pg m cd b_MO_areNumbersSmall 3 s _ w_MO_areNumbersSmall R_MO := ⟨hx, hb, hml, hown, hts⟩
  have hl := lv_entry ([.ref h]) (n := 3) (Nat.le_of_ble_eq_true rfl)
  rw [lg_entry_eq]
  generalize (lg_sl ([.ref h]) ++ List.replicate (3 - (lg_sl ([.ref h])).length) Slot.unset).toArray = ls at hl ⊢
  have hl : lv_has ls 3 [(0, .ref h)] := hl
  refine lv_aload_n hx hb d_MO_areNumbersSmall_0 rfl (lv_at hl 0 rfl) ?_
  refine va_get (D := (dC, dI)) (ci := 4) (v := .int (nI (n))) (C := R_MO) (T := F_MO) (N := 11) hx hb ht i_MO hown hK hP 0 rfl rfl 2 (by decide) (ht _ q_3_115) (fun _ h9 => h9) rfl d_MO_areNumbersSmall_1 ?_
  refine lv_bipush (v := nI (24)) hx hb d_MO_areNumbersSmall_4 (by decide) ?_
  refine lv_icmp_lt (tgt := 13) hx hb d_MO_areNumbersSmall_6 (by decide) (fun c0 => ?_) (fun c0 => ?_)
  · have c_6 : n < 24 := (nI_ltI (a := n) (b := 24) (by omega) (by omega)).mp c0
    refine lv_iconst (v := nI (0)) hx hb d_MO_areNumbersSmall_13 (by decide) ?_
    refine fm_tw (z := (fm_bI (decide (24 ≤ n) && fm_all 0 (fm_sm (fm_RB f))))) (by first | exact fm_bI_0 (by rw [decide_eq_false (Nat.not_le.mpr c_6)]; rfl) | exact fm_bI_1 (by rw [decide_eq_true (Nat.le_of_not_lt c_6)]; rfl)) ?_
    refine lv_istore_n (lv' := [(1, .int (fm_bI (decide (24 ≤ n) && fm_all 0 (fm_sm (fm_RB f))))), (0, .ref h)]) hx hb d_MO_areNumbersSmall_14 rfl hl (by decide) rfl (fun ls hl => ?_)
    refine lv_iconst (v := nI (0)) hx hb d_MO_areNumbersSmall_15 (by decide) ?_
    refine lv_istore_n (lv' := [(2, .int (nI (0))), (1, .int (fm_bI (decide (24 ≤ n) && fm_all 0 (fm_sm (fm_RB f))))), (0, .ref h)]) hx hb d_MO_areNumbersSmall_16 rfl hl (by decide) rfl (fun ls hl => ?_)
    refine fm_loop1 (LV := fun (i : Nat) => [(0, .ref h), (1, .int (fm_bI (decide (24 ≤ n) && fm_all i (fm_sm (fm_RB f))))), (2, .int (nI (i)))]) (I := fun (i : Nat) => i ≤ 12) (μ := fun (i : Nat) => 12 - i) ?_ 0 (by decide) ls (lv_sub hl [2, 1, 0] rfl)
    intro i hI_17 ih_17 ls hl
    have hl : lv_has ls 3 [(0, .ref h), (1, .int (fm_bI (decide (24 ≤ n) && fm_all i (fm_sm (fm_RB f))))), (2, .int (nI (i)))] := hl
    refine lv_iload_n hx hb d_MO_areNumbersSmall_17 rfl (lv_at hl 2 rfl) ?_
    refine lv_bipush (v := nI (12)) hx hb d_MO_areNumbersSmall_18 (by decide) ?_
    refine lv_icmp_ge (tgt := 53) hx hb d_MO_areNumbersSmall_20 (by decide) (fun c0 => ?_) (fun c0 => ?_)
    · have c_20 : 12 ≤ i := (nI_leI (a := 12) (b := i) (by omega) (by omega)).mp c0
      refine lv_iload_n hx hb d_MO_areNumbersSmall_53 rfl (lv_at hl 1 rfl) ?_
      exact W.zret (ty := .boolean) hx hb hr (fm_bI_z _) (fun t ht hW => ⟨_, rfl, by first | exact fm_bb (by rw [fm_small, show i = 12 by omega]) | exact fm_bb (fm_smX (by omega) c_24), ht⟩) (fun q hq => by cases hq) d_MO_areNumbersSmall_54
    · have c_20 : ¬ (12 ≤ i) := fun z => c0 ((nI_leI (a := 12) (b := i) (by omega) (by omega)).mpr z)
      refine lv_iload_n hx hb d_MO_areNumbersSmall_23 rfl (lv_at hl 1 rfl) ?_
      refine lv_if_eq (tgt := 53) hx hb d_MO_areNumbersSmall_24 (by decide) (fun c0 => ?_) (fun c0 => ?_)
      · have c_24 : (decide (24 ≤ n) && fm_all i (fm_sm (fm_RB f))) = false := fm_bI_f c0
        refine lv_iload_n hx hb d_MO_areNumbersSmall_53 rfl (lv_at hl 1 rfl) ?_
        exact W.zret (ty := .boolean) hx hb hr (fm_bI_z _) (fun t ht hW => ⟨_, rfl, by first | exact fm_bb (by rw [fm_small, show i = 12 by omega]) | exact fm_bb (fm_smX (by omega) c_24), ht⟩) (fun q hq => by cases hq) d_MO_areNumbersSmall_54
      · have c_24 : (decide (24 ≤ n) && fm_all i (fm_sm (fm_RB f))) = true := fm_bI_t c0
        refine lv_aload_n hx hb d_MO_areNumbersSmall_27 rfl (lv_at hl 0 rfl) ?_
        refine va_get (D := (dC, dI)) (ci := 4) (v := .ref fa) (C := R_MO) (T := F_MO) (N := 11) hx hb ht i_MO hown hK hP 0 rfl rfl 1 (by decide) (ht _ q_3_114) (fun _ h9 => h9) rfl d_MO_areNumbersSmall_28 ?_
        refine lv_iload_n hx hb d_MO_areNumbersSmall_31 rfl (lv_at hl 2 rfl) ?_
        refine fm_cs S (c_MO_half l dC dI fa cB f i (by omega)) rfl rfl k_MO_half q_3_172 ⟨Nat.le_of_ble_eq_true rfl, Nat.le_of_ble_eq_true rfl⟩ (hP.sub [1] rfl) (hK.sub [0] rfl) rfl hl.1 rfl (Nat.le_of_ble_eq_true rfl) ⟨Nat.zero_le _, Nat.zero_le _⟩ d_MO_areNumbersSmall_32 ?_
        have f0_32 := fm_HF_lt (fm_RB_lt f) i
        refine lv_sipush (v := nI (32767)) hx hb d_MO_areNumbersSmall_35 (by decide) ?_
        refine lv_icmp_gt (tgt := 45) hx hb d_MO_areNumbersSmall_38 (by decide) (fun c0 => ?_) (fun c0 => ?_)
        · have c_38 : 32767 < fm_HF (fm_RB f) i := (nI_ltI (a := 32767) (b := fm_HF (fm_RB f) i) (by omega) (by omega)).mp c0
          refine lv_iconst (v := nI (0)) hx hb d_MO_areNumbersSmall_45 (by decide) ?_
          refine fm_tw (z := (fm_bI (decide (24 ≤ n) && fm_all (i + 1) (fm_sm (fm_RB f))))) (fm_smS c_24 (by first | exact Or.inl ⟨rfl, decide_eq_true (Nat.le_of_not_lt c_38)⟩ | exact Or.inr ⟨rfl, decide_eq_false (Nat.not_le.mpr c_38)⟩)) ?_
          refine lv_istore_n (lv' := [(1, .int (fm_bI (decide (24 ≤ n) && fm_all (i + 1) (fm_sm (fm_RB f))))), (0, .ref h), (2, .int (nI (i)))]) hx hb d_MO_areNumbersSmall_46 rfl hl (by decide) rfl (fun ls hl => ?_)
          refine lv_iinc (v := nI (i + 1)) (lv' := [(2, .int (nI (i + 1))), (1, .int (fm_bI (decide (24 ≤ n) && fm_all (i + 1) (fm_sm (fm_RB f))))), (0, .ref h)]) hx hb d_MO_areNumbersSmall_47 hl (k := 2) rfl (nI_1 _) (by decide) rfl (fun ls hl => ?_)
          refine lv_goto (tgt := 17) hx hb d_MO_areNumbersSmall_50 (by decide) ?_
          exact ih_17 (i + 1) ls (by omega) (by omega) (lv_sub hl [2, 1, 0] rfl)
        · have c_38 : ¬ (32767 < fm_HF (fm_RB f) i) := fun z => c0 ((nI_ltI (a := 32767) (b := fm_HF (fm_RB f) i) (by omega) (by omega)).mpr z)
          refine lv_iconst (v := nI (1)) hx hb d_MO_areNumbersSmall_41 (by decide) ?_
          refine lv_goto (tgt := 46) hx hb d_MO_areNumbersSmall_42 (by decide) ?_
          refine fm_tw (z := (fm_bI (decide (24 ≤ n) && fm_all (i + 1) (fm_sm (fm_RB f))))) (fm_smS c_24 (by first | exact Or.inl ⟨rfl, decide_eq_true (Nat.le_of_not_lt c_38)⟩ | exact Or.inr ⟨rfl, decide_eq_false (Nat.not_le.mpr c_38)⟩)) ?_
          refine lv_istore_n (lv' := [(1, .int (fm_bI (decide (24 ≤ n) && fm_all (i + 1) (fm_sm (fm_RB f))))), (0, .ref h), (2, .int (nI (i)))]) hx hb d_MO_areNumbersSmall_46 rfl hl (by decide) rfl (fun ls hl => ?_)
          refine lv_iinc (v := nI (i + 1)) (lv' := [(2, .int (nI (i + 1))), (1, .int (fm_bI (decide (24 ≤ n) && fm_all (i + 1) (fm_sm (fm_RB f))))), (0, .ref h)]) hx hb d_MO_areNumbersSmall_47 hl (k := 2) rfl (nI_1 _) (by decide) rfl (fun ls hl => ?_)
          refine lv_goto (tgt := 17) hx hb d_MO_areNumbersSmall_50 (by decide) ?_
          exact ih_17 (i + 1) ls (by omega) (by omega) (lv_sub hl [2, 1, 0] rfl)
  · have c_6 : ¬ (n < 24) := fun z => c0 ((nI_ltI (a := n) (b := 24) (by omega) (by omega)).mpr z)
    refine lv_iconst (v := nI (1)) hx hb d_MO_areNumbersSmall_9 (by decide) ?_
    refine lv_goto (tgt := 14) hx hb d_MO_areNumbersSmall_10 (by decide) ?_
    refine fm_tw (z := (fm_bI (decide (24 ≤ n) && fm_all 0 (fm_sm (fm_RB f))))) (by first | exact fm_bI_0 (by rw [decide_eq_false (Nat.not_le.mpr c_6)]; rfl) | exact fm_bI_1 (by rw [decide_eq_true (Nat.le_of_not_lt c_6)]; rfl)) ?_
    refine lv_istore_n (lv' := [(1, .int (fm_bI (decide (24 ≤ n) && fm_all 0 (fm_sm (fm_RB f))))), (0, .ref h)]) hx hb d_MO_areNumbersSmall_14 rfl hl (by decide) rfl (fun ls hl => ?_)
    refine lv_iconst (v := nI (0)) hx hb d_MO_areNumbersSmall_15 (by decide) ?_
    refine lv_istore_n (lv' := [(2, .int (nI (0))), (1, .int (fm_bI (decide (24 ≤ n) && fm_all 0 (fm_sm (fm_RB f))))), (0, .ref h)]) hx hb d_MO_areNumbersSmall_16 rfl hl (by decide) rfl (fun ls hl => ?_)
    refine fm_loop1 (LV := fun (i : Nat) => [(0, .ref h), (1, .int (fm_bI (decide (24 ≤ n) && fm_all i (fm_sm (fm_RB f))))), (2, .int (nI (i)))]) (I := fun (i : Nat) => i ≤ 12) (μ := fun (i : Nat) => 12 - i) ?_ 0 (by decide) ls (lv_sub hl [2, 1, 0] rfl)
    intro i hI_17 ih_17 ls hl
    have hl : lv_has ls 3 [(0, .ref h), (1, .int (fm_bI (decide (24 ≤ n) && fm_all i (fm_sm (fm_RB f))))), (2, .int (nI (i)))] := hl
    refine lv_iload_n hx hb d_MO_areNumbersSmall_17 rfl (lv_at hl 2 rfl) ?_
    refine lv_bipush (v := nI (12)) hx hb d_MO_areNumbersSmall_18 (by decide) ?_
    refine lv_icmp_ge (tgt := 53) hx hb d_MO_areNumbersSmall_20 (by decide) (fun c0 => ?_) (fun c0 => ?_)
    · have c_20 : 12 ≤ i := (nI_leI (a := 12) (b := i) (by omega) (by omega)).mp c0
      refine lv_iload_n hx hb d_MO_areNumbersSmall_53 rfl (lv_at hl 1 rfl) ?_
      exact W.zret (ty := .boolean) hx hb hr (fm_bI_z _) (fun t ht hW => ⟨_, rfl, by first | exact fm_bb (by rw [fm_small, show i = 12 by omega]) | exact fm_bb (fm_smX (by omega) c_24), ht⟩) (fun q hq => by cases hq) d_MO_areNumbersSmall_54
    · have c_20 : ¬ (12 ≤ i) := fun z => c0 ((nI_leI (a := 12) (b := i) (by omega) (by omega)).mpr z)
      refine lv_iload_n hx hb d_MO_areNumbersSmall_23 rfl (lv_at hl 1 rfl) ?_
      refine lv_if_eq (tgt := 53) hx hb d_MO_areNumbersSmall_24 (by decide) (fun c0 => ?_) (fun c0 => ?_)
      · have c_24 : (decide (24 ≤ n) && fm_all i (fm_sm (fm_RB f))) = false := fm_bI_f c0
        refine lv_iload_n hx hb d_MO_areNumbersSmall_53 rfl (lv_at hl 1 rfl) ?_
        exact W.zret (ty := .boolean) hx hb hr (fm_bI_z _) (fun t ht hW => ⟨_, rfl, by first | exact fm_bb (by rw [fm_small, show i = 12 by omega]) | exact fm_bb (fm_smX (by omega) c_24), ht⟩) (fun q hq => by cases hq) d_MO_areNumbersSmall_54
      · have c_24 : (decide (24 ≤ n) && fm_all i (fm_sm (fm_RB f))) = true := fm_bI_t c0
        refine lv_aload_n hx hb d_MO_areNumbersSmall_27 rfl (lv_at hl 0 rfl) ?_
        refine va_get (D := (dC, dI)) (ci := 4) (v := .ref fa) (C := R_MO) (T := F_MO) (N := 11) hx hb ht i_MO hown hK hP 0 rfl rfl 1 (by decide) (ht _ q_3_114) (fun _ h9 => h9) rfl d_MO_areNumbersSmall_28 ?_
        refine lv_iload_n hx hb d_MO_areNumbersSmall_31 rfl (lv_at hl 2 rfl) ?_
        refine fm_cs S (c_MO_half l dC dI fa cB f i (by omega)) rfl rfl k_MO_half q_3_172 ⟨Nat.le_of_ble_eq_true rfl, Nat.le_of_ble_eq_true rfl⟩ (hP.sub [1] rfl) (hK.sub [0] rfl) rfl hl.1 rfl (Nat.le_of_ble_eq_true rfl) ⟨Nat.zero_le _, Nat.zero_le _⟩ d_MO_areNumbersSmall_32 ?_
        have f0_32 := fm_HF_lt (fm_RB_lt f) i
        refine lv_sipush (v := nI (32767)) hx hb d_MO_areNumbersSmall_35 (by decide) ?_
        refine lv_icmp_gt (tgt := 45) hx hb d_MO_areNumbersSmall_38 (by decide) (fun c0 => ?_) (fun c0 => ?_)
        · have c_38 : 32767 < fm_HF (fm_RB f) i := (nI_ltI (a := 32767) (b := fm_HF (fm_RB f) i) (by omega) (by omega)).mp c0
          refine lv_iconst (v := nI (0)) hx hb d_MO_areNumbersSmall_45 (by decide) ?_
          refine fm_tw (z := (fm_bI (decide (24 ≤ n) && fm_all (i + 1) (fm_sm (fm_RB f))))) (fm_smS c_24 (by first | exact Or.inl ⟨rfl, decide_eq_true (Nat.le_of_not_lt c_38)⟩ | exact Or.inr ⟨rfl, decide_eq_false (Nat.not_le.mpr c_38)⟩)) ?_
          refine lv_istore_n (lv' := [(1, .int (fm_bI (decide (24 ≤ n) && fm_all (i + 1) (fm_sm (fm_RB f))))), (0, .ref h), (2, .int (nI (i)))]) hx hb d_MO_areNumbersSmall_46 rfl hl (by decide) rfl (fun ls hl => ?_)
          refine lv_iinc (v := nI (i + 1)) (lv' := [(2, .int (nI (i + 1))), (1, .int (fm_bI (decide (24 ≤ n) && fm_all (i + 1) (fm_sm (fm_RB f))))), (0, .ref h)]) hx hb d_MO_areNumbersSmall_47 hl (k := 2) rfl (nI_1 _) (by decide) rfl (fun ls hl => ?_)
          refine lv_goto (tgt := 17) hx hb d_MO_areNumbersSmall_50 (by decide) ?_
          exact ih_17 (i + 1) ls (by omega) (by omega) (lv_sub hl [2, 1, 0] rfl)
        · have c_38 : ¬ (32767 < fm_HF (fm_RB f) i) := fun z => c0 ((nI_ltI (a := 32767) (b := fm_HF (fm_RB f) i) (by omega) (by omega)).mpr z)
          refine lv_iconst (v := nI (1)) hx hb d_MO_areNumbersSmall_41 (by decide) ?_
          refine lv_goto (tgt := 46) hx hb d_MO_areNumbersSmall_42 (by decide) ?_
          refine fm_tw (z := (fm_bI (decide (24 ≤ n) && fm_all (i + 1) (fm_sm (fm_RB f))))) (fm_smS c_24 (by first | exact Or.inl ⟨rfl, decide_eq_true (Nat.le_of_not_lt c_38)⟩ | exact Or.inr ⟨rfl, decide_eq_false (Nat.not_le.mpr c_38)⟩)) ?_
          refine lv_istore_n (lv' := [(1, .int (fm_bI (decide (24 ≤ n) && fm_all (i + 1) (fm_sm (fm_RB f))))), (0, .ref h), (2, .int (nI (i)))]) hx hb d_MO_areNumbersSmall_46 rfl hl (by decide) rfl (fun ls hl => ?_)
          refine lv_iinc (v := nI (i + 1)) (lv' := [(2, .int (nI (i + 1))), (1, .int (fm_bI (decide (24 ≤ n) && fm_all (i + 1) (fm_sm (fm_RB f))))), (0, .ref h)]) hx hb d_MO_areNumbersSmall_47 hl (k := 2) rfl (nI_1 _) (by decide) rfl (fun ls hl => ?_)
          refine lv_goto (tgt := 17) hx hb d_MO_areNumbersSmall_50 (by decide) ?_
          exact ih_17 (i + 1) ls (by omega) (by omega) (lv_sub hl [2, 1, 0] rfl)
theorem d_MO_scaled_0 : decode b_MO_scaled 0 = .ok (.aload_n 0, 1) := by decide +kernel
theorem d_MO_scaled_1 : decode b_MO_scaled 1 = .ok (.getfield 107, 3) := by decide +kernel
theorem d_MO_scaled_4 : decode b_MO_scaled 4 = .ok (.i2l, 1) := by decide +kernel
theorem d_MO_scaled_5 : decode b_MO_scaled 5 = .ok (.lstore_n 3, 1) := by decide +kernel
theorem d_MO_scaled_6 : decode b_MO_scaled 6 = .ok (.iconst 0, 1) := by decide +kernel
theorem d_MO_scaled_7 : decode b_MO_scaled 7 = .ok (.istore 5, 2) := by decide +kernel
theorem d_MO_scaled_9 : decode b_MO_scaled 9 = .ok (.lload_n 3, 1) := by decide +kernel
theorem d_MO_scaled_10 : decode b_MO_scaled 10 = .ok (.ldc2_w 113, 3) := by decide +kernel
theorem d_MO_scaled_13 : decode b_MO_scaled 13 = .ok (.lcmp, 1) := by decide +kernel
theorem d_MO_scaled_14 : decode b_MO_scaled 14 = .ok (.ifCond .lt 15, 3) := by decide +kernel
theorem d_MO_scaled_17 : decode b_MO_scaled 17 = .ok (.lload_n 3, 1) := by decide +kernel
theorem d_MO_scaled_18 : decode b_MO_scaled 18 = .ok (.ldc2_w 115, 3) := by decide +kernel
theorem d_MO_scaled_21 : decode b_MO_scaled 21 = .ok (.ldiv, 1) := by decide +kernel
theorem d_MO_scaled_22 : decode b_MO_scaled 22 = .ok (.lstore_n 3, 1) := by decide +kernel
theorem d_MO_scaled_23 : decode b_MO_scaled 23 = .ok (.iinc 5 1, 3) := by decide +kernel
theorem d_MO_scaled_26 : decode b_MO_scaled 26 = .ok (.goto (-17), 3) := by decide +kernel
theorem d_MO_scaled_29 : decode b_MO_scaled 29 = .ok (.ldc2_w 117, 3) := by decide +kernel
theorem d_MO_scaled_32 : decode b_MO_scaled 32 = .ok (.aload_n 0, 1) := by decide +kernel
theorem d_MO_scaled_33 : decode b_MO_scaled 33 = .ok (.getfield 13, 3) := by decide +kernel
theorem d_MO_scaled_36 : decode b_MO_scaled 36 = .ok (.iload_n 1, 1) := by decide +kernel
theorem d_MO_scaled_37 : decode b_MO_scaled 37 = .ok (.iload_n 2, 1) := by decide +kernel
theorem d_MO_scaled_38 : decode b_MO_scaled 38 = .ok (.iconst 1, 1) := by decide +kernel
theorem d_MO_scaled_39 : decode b_MO_scaled 39 = .ok (.invokestatic 43, 3) := by decide +kernel
theorem d_MO_scaled_42 : decode b_MO_scaled 42 = .ok (.i2l, 1) := by decide +kernel
theorem d_MO_scaled_43 : decode b_MO_scaled 43 = .ok (.lmul, 1) := by decide +kernel
theorem d_MO_scaled_44 : decode b_MO_scaled 44 = .ok (.ldc2_w 119, 3) := by decide +kernel
theorem d_MO_scaled_47 : decode b_MO_scaled 47 = .ok (.aload_n 0, 1) := by decide +kernel
theorem d_MO_scaled_48 : decode b_MO_scaled 48 = .ok (.getfield 13, 3) := by decide +kernel
theorem d_MO_scaled_51 : decode b_MO_scaled 51 = .ok (.iload_n 1, 1) := by decide +kernel
theorem d_MO_scaled_52 : decode b_MO_scaled 52 = .ok (.iload_n 2, 1) := by decide +kernel
theorem d_MO_scaled_53 : decode b_MO_scaled 53 = .ok (.iconst 2, 1) := by decide +kernel
theorem d_MO_scaled_54 : decode b_MO_scaled 54 = .ok (.invokestatic 43, 3) := by decide +kernel
theorem d_MO_scaled_57 : decode b_MO_scaled 57 = .ok (.i2l, 1) := by decide +kernel
theorem d_MO_scaled_58 : decode b_MO_scaled 58 = .ok (.lmul, 1) := by decide +kernel
theorem d_MO_scaled_59 : decode b_MO_scaled 59 = .ok (.ladd, 1) := by decide +kernel
theorem d_MO_scaled_60 : decode b_MO_scaled 60 = .ok (.aload_n 0, 1) := by decide +kernel
theorem d_MO_scaled_61 : decode b_MO_scaled 61 = .ok (.getfield 13, 3) := by decide +kernel
theorem d_MO_scaled_64 : decode b_MO_scaled 64 = .ok (.iload_n 1, 1) := by decide +kernel
theorem d_MO_scaled_65 : decode b_MO_scaled 65 = .ok (.iload_n 2, 1) := by decide +kernel
theorem d_MO_scaled_66 : decode b_MO_scaled 66 = .ok (.iconst 3, 1) := by decide +kernel
theorem d_MO_scaled_67 : decode b_MO_scaled 67 = .ok (.invokestatic 43, 3) := by decide +kernel
theorem d_MO_scaled_70 : decode b_MO_scaled 70 = .ok (.i2l, 1) := by decide +kernel
theorem d_MO_scaled_71 : decode b_MO_scaled 71 = .ok (.ladd, 1) := by decide +kernel
theorem d_MO_scaled_72 : decode b_MO_scaled 72 = .ok (.lstore 6, 2) := by decide +kernel
theorem d_MO_scaled_74 : decode b_MO_scaled 74 = .ok (.lload 6, 2) := by decide +kernel
theorem d_MO_scaled_76 : decode b_MO_scaled 76 = .ok (.lload_n 3, 1) := by decide +kernel
theorem d_MO_scaled_77 : decode b_MO_scaled 77 = .ok (.lmul, 1) := by decide +kernel
theorem d_MO_scaled_78 : decode b_MO_scaled 78 = .ok (.bipush 20, 2) := by decide +kernel
theorem d_MO_scaled_80 : decode b_MO_scaled 80 = .ok (.iload 5, 2) := by decide +kernel
theorem d_MO_scaled_82 : decode b_MO_scaled 82 = .ok (.isub, 1) := by decide +kernel
theorem d_MO_scaled_83 : decode b_MO_scaled 83 = .ok (.lshr, 1) := by decide +kernel
theorem d_MO_scaled_84 : decode b_MO_scaled 84 = .ok (.lstore 8, 2) := by decide +kernel
theorem d_MO_scaled_86 : decode b_MO_scaled 86 = .ok (.aload_n 0, 1) := by decide +kernel
theorem d_MO_scaled_87 : decode b_MO_scaled 87 = .ok (.getfield 13, 3) := by decide +kernel
theorem d_MO_scaled_90 : decode b_MO_scaled 90 = .ok (.iload_n 1, 1) := by decide +kernel
theorem d_MO_scaled_91 : decode b_MO_scaled 91 = .ok (.iload_n 2, 1) := by decide +kernel
theorem d_MO_scaled_92 : decode b_MO_scaled 92 = .ok (.iconst 0, 1) := by decide +kernel
theorem d_MO_scaled_93 : decode b_MO_scaled 93 = .ok (.invokestatic 43, 3) := by decide +kernel
theorem d_MO_scaled_96 : decode b_MO_scaled 96 = .ok (.sipush 255, 3) := by decide +kernel
theorem d_MO_scaled_99 : decode b_MO_scaled 99 = .ok (.if_icmp .ne 15, 3) := by decide +kernel
theorem d_MO_scaled_102 : decode b_MO_scaled 102 = .ok (.lload 8, 2) := by decide +kernel
theorem d_MO_scaled_104 : decode b_MO_scaled 104 = .ok (.lload_n 3, 1) := by decide +kernel
theorem d_MO_scaled_105 : decode b_MO_scaled 105 = .ok (.iconst 4, 1) := by decide +kernel
theorem d_MO_scaled_106 : decode b_MO_scaled 106 = .ok (.iload 5, 2) := by decide +kernel
theorem d_MO_scaled_108 : decode b_MO_scaled 108 = .ok (.iadd, 1) := by decide +kernel
theorem d_MO_scaled_109 : decode b_MO_scaled 109 = .ok (.lshl, 1) := by decide +kernel
theorem d_MO_scaled_110 : decode b_MO_scaled 110 = .ok (.lsub, 1) := by decide +kernel
theorem d_MO_scaled_111 : decode b_MO_scaled 111 = .ok (.goto 5, 3) := by decide +kernel
theorem d_MO_scaled_114 : decode b_MO_scaled 114 = .ok (.lload 8, 2) := by decide +kernel
theorem d_MO_scaled_116 : decode b_MO_scaled 116 = .ok (.l2i, 1) := by decide +kernel
theorem d_MO_scaled_117 : decode b_MO_scaled 117 = .ok (.ireturn, 1) := by decide +kernel
set_option maxHeartbeats 4000000 in
set_option maxRecDepth 100000 in
theorem c_MO_scaled (l : Launch) (dC : Nat → ClassId) (dI : Nat → Nat → Nat) (h : Nat) (th : Int32) (fa : Nat) (n0 : Int32) (ga : Nat) (ld : Int32) (s0 : Nat) (ra : Nat) (rz : Int32) (ka : Nat) (wa : Nat) (ct : Int32) (cB : ClassId) (g : Nat → Int32) (p : Nat) (k : Nat) (hL : fm_Len (fm_RB g)) (hs : s0 < 134217728) (hp : p < 10) (hr : fm_ST (fm_RB g) p + k < 2048) : fm_M l (dC, dI) y_MO_scaled w_MO_scaled ({ frames := 4, cells := 0, slots := 0, locals := 88 }) [.ref h, .int (nI (p)), .int (nI (k))] [(h, .inr (4, [.int (th), .ref fa, .int (n0), .ref ga, .int (ld), .int (nI (s0)), .ref ra, .int (rz), .ref ka, .ref wa, .int (ct)])), (ga, .inl (cB, 8192, .inl (g)))] [(cB, .byte)] ((fm_sc (fm_RB g) s0 p k)) := by
  refine Met.ofW (cc := b_MO_scaled) (maxL := 10) (ret := (some .int)) (by decide) rfl ?_
  intro pg ev s m args below meth cd s₁ BD hml hv
  obtain ⟨rfl, hP, hK⟩ := hv
  have hx := BD.exec
  have hb := BD.bytes
  have hr := BD.returns
  have hts := atoms_spec (ws := w_MO_scaled) BD.pre
  have ht : ∀ w ∈ fm_T, w.before _ s = true := fun w h => hts w (List.mem_cons_of_mem _ h)
  have hown : s.vm.findClass R_MO = some m.cls := findClass_of_methodNamed BD.named
  have hlocks := BD.notSynchronized
  have S : CallFix pg m cd b_MO_scaled 10 s _ w_MO_scaled R_MO := ⟨hx, hb, hml, hown, hts⟩
  have hl := lv_entry ([.ref h, .int (nI (p)), .int (nI (k))]) (n := 10) (Nat.le_of_ble_eq_true rfl)
  rw [lg_entry_eq]
  generalize (lg_sl ([.ref h, .int (nI (p)), .int (nI (k))]) ++ List.replicate (10 - (lg_sl ([.ref h, .int (nI (p)), .int (nI (k))])).length) Slot.unset).toArray = ls at hl ⊢
  have hl : lv_has ls 10 [(0, .ref h), (1, .int (nI (p))), (2, .int (nI (k)))] := hl
  obtain ⟨-, hq, h3, h10⟩ := id hL
  have hh4 := fm_h_le s0
  refine lv_aload_n hx hb d_MO_scaled_0 rfl (lv_at hl 0 rfl) ?_
  refine va_get (D := (dC, dI)) (ci := 4) (v := .int (nI (s0))) (C := R_MO) (T := F_MO) (N := 11) hx hb ht i_MO hown hK hP 0 rfl rfl 5 (by decide) (ht _ q_3_118) (fun _ h9 => h9) rfl d_MO_scaled_1 ?_
  refine lv_i2l (v := lN (s0)) hx hb d_MO_scaled_4 (nI_l (by omega)) ?_
  refine lv_lstore_n (lv' := [(3, .long (lN (s0))), (0, .ref h), (1, .int (nI (p))), (2, .int (nI (k)))]) hx hb d_MO_scaled_5 rfl hl (by decide) rfl (fun ls hl => ?_)
  refine lv_iconst (v := nI (0)) hx hb d_MO_scaled_6 (by decide) ?_
  refine lv_istore (lv' := [(5, .int (nI (0))), (3, .long (lN (s0))), (0, .ref h), (1, .int (nI (p))), (2, .int (nI (k)))]) hx hb d_MO_scaled_7 hl (by decide) rfl (fun ls hl => ?_)
  rw [show lN s0 = lN (s0 / 2 ^ 0) by rw [Nat.pow_zero, Nat.div_one]] at hl
  refine fm_loop1 (LV := fun (i : Nat) => [(0, .ref h), (1, .int (nI (p))), (2, .int (nI (k))), (3, .long (lN (s0 / 2 ^ i))), (5, .int (nI (i)))]) (I := fun (i : Nat) => i ≤ fm_h s0) (μ := fun (i : Nat) => fm_h s0 - i) ?_ 0 (Nat.zero_le _) ls (lv_sub hl [2, 3, 4, 1, 0] rfl)
  intro i hI_9 ih_9 ls hl
  have hl : lv_has ls 10 [(0, .ref h), (1, .int (nI (p))), (2, .int (nI (k))), (3, .long (lN (s0 / 2 ^ i))), (5, .int (nI (i)))] := hl
  have hdv : s0 / 2 ^ i < 134217728 := Nat.lt_of_le_of_lt (Nat.div_le_self _ _) hs
  refine lv_lload_n hx hb d_MO_scaled_9 rfl (lv_at hl 3 rfl) ?_
  refine lv_ldc2 (own := R_MO) (v := lN 8388608) hx hb hown (ht _ q_4_10) d_MO_scaled_10 ?_
  refine W.lcmp hx hb d_MO_scaled_13 ?_
  refine lv_if_lt (tgt := 29) hx hb d_MO_scaled_14 (by decide) (fun c0 => ?_) (fun c0 => ?_)
  · have c_14 := c0
    have hz := (fm_h_iff hs hI_9).mp ((pk_lLT (by omega) (by decide)).mp (fm_lcmp.mp c_14))
    subst hz
    refine lv_ldc2 (own := R_MO) (v := lN 65536) hx hb hown (ht _ q_4_12) d_MO_scaled_29 ?_
    refine lv_aload_n hx hb d_MO_scaled_32 rfl (lv_at hl 0 rfl) ?_
    refine va_get (D := (dC, dI)) (ci := 4) (v := .ref ga) (C := R_MO) (T := F_MO) (N := 11) hx hb ht i_MO hown hK hP 0 rfl rfl 3 (by decide) (ht _ q_3_116) (fun _ h9 => h9) rfl d_MO_scaled_33 ?_
    refine lv_iload_n hx hb d_MO_scaled_36 rfl (lv_at hl 1 rfl) ?_
    refine lv_iload_n hx hb d_MO_scaled_37 rfl (lv_at hl 2 rfl) ?_
    refine lv_iconst (v := nI (1)) hx hb d_MO_scaled_38 (by decide) ?_
    refine fm_cs S (c_MO_at l dC dI ga cB g p k 1 (by omega) (hq) (by omega) (by omega)) rfl rfl k_MO_at q_3_184 ⟨Nat.le_of_ble_eq_true rfl, Nat.le_of_ble_eq_true rfl⟩ (hP.sub [1] rfl) (hK.sub [0] rfl) rfl hl.1 rfl (Nat.le_of_ble_eq_true rfl) ⟨Nat.zero_le _, Nat.zero_le _⟩ d_MO_scaled_39 ?_
    have f0_39 := fm_AT_lt (fm_RB_lt g) p k 1
    refine lv_i2l (v := lN (fm_AT (fm_RB g) p k 1)) hx hb d_MO_scaled_42 (nI_l (by omega)) ?_
    refine lv_lmul hx hb d_MO_scaled_43 ?_
    refine fm_twl (z := lN (65536 * ((fm_AT (fm_RB g) p k 1)))) (lN_mul _ _) ?_
    refine lv_ldc2 (own := R_MO) (v := lN 256) hx hb hown (ht _ q_4_13) d_MO_scaled_44 ?_
    refine lv_aload_n hx hb d_MO_scaled_47 rfl (lv_at hl 0 rfl) ?_
    refine va_get (D := (dC, dI)) (ci := 4) (v := .ref ga) (C := R_MO) (T := F_MO) (N := 11) hx hb ht i_MO hown hK hP 0 rfl rfl 3 (by decide) (ht _ q_3_116) (fun _ h9 => h9) rfl d_MO_scaled_48 ?_
    refine lv_iload_n hx hb d_MO_scaled_51 rfl (lv_at hl 1 rfl) ?_
    refine lv_iload_n hx hb d_MO_scaled_52 rfl (lv_at hl 2 rfl) ?_
    refine lv_iconst (v := nI (2)) hx hb d_MO_scaled_53 (by decide) ?_
    refine fm_cs S (c_MO_at l dC dI ga cB g p k 2 (by omega) (hq) (by omega) (by omega)) rfl rfl k_MO_at q_3_184 ⟨Nat.le_of_ble_eq_true rfl, Nat.le_of_ble_eq_true rfl⟩ (hP.sub [1] rfl) (hK.sub [0] rfl) rfl hl.1 rfl (Nat.le_of_ble_eq_true rfl) ⟨Nat.zero_le _, Nat.zero_le _⟩ d_MO_scaled_54 ?_
    have f0_54 := fm_AT_lt (fm_RB_lt g) p k 2
    refine lv_i2l (v := lN (fm_AT (fm_RB g) p k 2)) hx hb d_MO_scaled_57 (nI_l (by omega)) ?_
    refine lv_lmul hx hb d_MO_scaled_58 ?_
    refine fm_twl (z := lN (256 * ((fm_AT (fm_RB g) p k 2)))) (lN_mul _ _) ?_
    refine lv_ladd hx hb d_MO_scaled_59 ?_
    refine fm_twl (z := lN ((65536 * ((fm_AT (fm_RB g) p k 1))) + ((256 * ((fm_AT (fm_RB g) p k 2)))))) (lN_add _ _) ?_
    refine lv_aload_n hx hb d_MO_scaled_60 rfl (lv_at hl 0 rfl) ?_
    refine va_get (D := (dC, dI)) (ci := 4) (v := .ref ga) (C := R_MO) (T := F_MO) (N := 11) hx hb ht i_MO hown hK hP 0 rfl rfl 3 (by decide) (ht _ q_3_116) (fun _ h9 => h9) rfl d_MO_scaled_61 ?_
    refine lv_iload_n hx hb d_MO_scaled_64 rfl (lv_at hl 1 rfl) ?_
    refine lv_iload_n hx hb d_MO_scaled_65 rfl (lv_at hl 2 rfl) ?_
    refine lv_iconst (v := nI (3)) hx hb d_MO_scaled_66 (by decide) ?_
    refine fm_cs S (c_MO_at l dC dI ga cB g p k 3 (by omega) (hq) (by omega) (by omega)) rfl rfl k_MO_at q_3_184 ⟨Nat.le_of_ble_eq_true rfl, Nat.le_of_ble_eq_true rfl⟩ (hP.sub [1] rfl) (hK.sub [0] rfl) rfl hl.1 rfl (Nat.le_of_ble_eq_true rfl) ⟨Nat.zero_le _, Nat.zero_le _⟩ d_MO_scaled_67 ?_
    have f0_67 := fm_AT_lt (fm_RB_lt g) p k 3
    refine lv_i2l (v := lN (fm_AT (fm_RB g) p k 3)) hx hb d_MO_scaled_70 (nI_l (by omega)) ?_
    refine lv_ladd hx hb d_MO_scaled_71 ?_
    refine fm_twl (z := lN (((65536 * ((fm_AT (fm_RB g) p k 1))) + ((256 * ((fm_AT (fm_RB g) p k 2))))) + ((fm_AT (fm_RB g) p k 3)))) (lN_add _ _) ?_
    refine lv_lstore (lv' := [(6, .long (lN (((65536 * ((fm_AT (fm_RB g) p k 1))) + ((256 * ((fm_AT (fm_RB g) p k 2))))) + ((fm_AT (fm_RB g) p k 3))))), (0, .ref h), (1, .int (nI (p))), (2, .int (nI (k))), (3, .long (lN (s0 / 2 ^ (fm_h s0)))), (5, .int (nI ((fm_h s0))))]) hx hb d_MO_scaled_72 hl (by decide) rfl (fun ls hl => ?_)
    refine lv_lload hx hb d_MO_scaled_74 (lv_at hl 0 rfl) ?_
    refine lv_lload_n hx hb d_MO_scaled_76 rfl (lv_at hl 4 rfl) ?_
    refine lv_lmul hx hb d_MO_scaled_77 ?_
    refine fm_twl (z := lN (((((65536 * ((fm_AT (fm_RB g) p k 1))) + ((256 * ((fm_AT (fm_RB g) p k 2))))) + ((fm_AT (fm_RB g) p k 3)))) * ((s0 / 2 ^ (fm_h s0))))) (lN_mul _ _) ?_
    refine lv_bipush (v := nI (20)) hx hb d_MO_scaled_78 (by decide) ?_
    refine lv_iload hx hb d_MO_scaled_80 (lv_at hl 5 rfl) ?_
    refine lv_isub hx hb d_MO_scaled_82 ?_
    refine fm_tw (z := nI (20 - ((fm_h s0)))) (pk_sub (by omega)) ?_
    refine lv_lshr hx hb d_MO_scaled_83 rfl ?_
    refine lv_lstore (lv' := [(8, .long ((lN (((((65536 * ((fm_AT (fm_RB g) p k 1))) + ((256 * ((fm_AT (fm_RB g) p k 2))))) + ((fm_AT (fm_RB g) p k 3)))) * ((s0 / 2 ^ (fm_h s0))))) >>> ((nI (20 - ((fm_h s0)))).toInt64 &&& 63))), (6, .long (lN (((65536 * ((fm_AT (fm_RB g) p k 1))) + ((256 * ((fm_AT (fm_RB g) p k 2))))) + ((fm_AT (fm_RB g) p k 3))))), (0, .ref h), (1, .int (nI (p))), (2, .int (nI (k))), (3, .long (lN (s0 / 2 ^ (fm_h s0)))), (5, .int (nI ((fm_h s0))))]) hx hb d_MO_scaled_84 hl (by decide) rfl (fun ls hl => ?_)
    refine lv_aload_n hx hb d_MO_scaled_86 rfl (lv_at hl 2 rfl) ?_
    refine va_get (D := (dC, dI)) (ci := 4) (v := .ref ga) (C := R_MO) (T := F_MO) (N := 11) hx hb ht i_MO hown hK hP 0 rfl rfl 3 (by decide) (ht _ q_3_116) (fun _ h9 => h9) rfl d_MO_scaled_87 ?_
    refine lv_iload_n hx hb d_MO_scaled_90 rfl (lv_at hl 3 rfl) ?_
    refine lv_iload_n hx hb d_MO_scaled_91 rfl (lv_at hl 4 rfl) ?_
    refine lv_iconst (v := nI (0)) hx hb d_MO_scaled_92 (by decide) ?_
    refine fm_cs S (c_MO_at l dC dI ga cB g p k 0 (by omega) (hq) (by omega) (by omega)) rfl rfl k_MO_at q_3_184 ⟨Nat.le_of_ble_eq_true rfl, Nat.le_of_ble_eq_true rfl⟩ (hP.sub [1] rfl) (hK.sub [0] rfl) rfl hl.1 rfl (Nat.le_of_ble_eq_true rfl) ⟨Nat.zero_le _, Nat.zero_le _⟩ d_MO_scaled_93 ?_
    have f0_93 := fm_AT_lt (fm_RB_lt g) p k 0
    refine lv_sipush (v := nI (255)) hx hb d_MO_scaled_96 (by decide) ?_
    refine lv_icmp_ne (tgt := 114) hx hb d_MO_scaled_99 (by decide) (fun c0 => ?_) (fun c0 => ?_)
    · have c_99 : ¬ (fm_AT (fm_RB g) p k 0 = 255) := fun z => c0 ((nI_eq (a := fm_AT (fm_RB g) p k 0) (b := 255) (by omega) (by omega)).mpr z)
      refine lv_lload hx hb d_MO_scaled_114 (lv_at hl 0 rfl) ?_
      refine lv_l2i hx hb d_MO_scaled_116 rfl ?_
      exact W.iret hx hb hr (fun t ht hW => ⟨_, rfl, by first | (rw [fm_sc, if_pos c_99]; rfl) | (rw [fm_sc, if_neg c_99]; rfl), ht⟩) (fun q hq => by cases hq) d_MO_scaled_117
    · have c_99 : fm_AT (fm_RB g) p k 0 = 255 := (nI_eq (a := fm_AT (fm_RB g) p k 0) (b := 255) (by omega) (by omega)).mp c0
      refine lv_lload hx hb d_MO_scaled_102 (lv_at hl 0 rfl) ?_
      refine lv_lload_n hx hb d_MO_scaled_104 rfl (lv_at hl 5 rfl) ?_
      refine lv_iconst (v := nI (4)) hx hb d_MO_scaled_105 (by decide) ?_
      refine lv_iload hx hb d_MO_scaled_106 (lv_at hl 6 rfl) ?_
      refine lv_iadd hx hb d_MO_scaled_108 ?_
      refine fm_tw (z := nI (4 + (fm_h s0))) (nI_add _ _) ?_
      refine lv_lshl hx hb d_MO_scaled_109 rfl ?_
      refine lv_lsub hx hb d_MO_scaled_110 ?_
      refine lv_goto (tgt := 116) hx hb d_MO_scaled_111 (by decide) ?_
      refine lv_l2i hx hb d_MO_scaled_116 rfl ?_
      exact W.iret hx hb hr (fun t ht hW => ⟨_, rfl, by first | (rw [fm_sc, if_pos c_99]; rfl) | (rw [fm_sc, if_neg c_99]; rfl), ht⟩) (fun q hq => by cases hq) d_MO_scaled_117
  · have c_14 := c0
    have hne : i ≠ fm_h s0 := fun z => c_14 (fm_lcmp.mpr ((pk_lLT (by omega) (by decide)).mpr ((fm_h_iff hs hI_9).mpr z)))
    refine lv_lload_n hx hb d_MO_scaled_17 rfl (lv_at hl 3 rfl) ?_
    refine lv_ldc2 (own := R_MO) (v := lN 2) hx hb hown (ht _ q_4_11) d_MO_scaled_18 ?_
    refine lv_ldiv hx hb d_MO_scaled_21 (by decide) ?_
    refine fm_twl (z := lN (s0 / 2 ^ (i + 1))) (by rw [← fm_h_half]; exact pk_lDiv (by omega) (by decide) (by decide)) ?_
    refine lv_lstore_n (lv' := [(3, .long (lN (s0 / 2 ^ (i + 1)))), (0, .ref h), (1, .int (nI (p))), (2, .int (nI (k))), (5, .int (nI (i)))]) hx hb d_MO_scaled_22 rfl hl (by decide) rfl (fun ls hl => ?_)
    refine lv_iinc (v := nI (i + 1)) (lv' := [(5, .int (nI (i + 1))), (3, .long (lN (s0 / 2 ^ (i + 1)))), (0, .ref h), (1, .int (nI (p))), (2, .int (nI (k)))]) hx hb d_MO_scaled_23 hl (k := 4) rfl (nI_1 _) (by decide) rfl (fun ls hl => ?_)
    refine lv_goto (tgt := 9) hx hb d_MO_scaled_26 (by decide) ?_
    exact ih_9 (i + 1) ls (by omega) (by omega) (lv_sub hl [2, 3, 4, 1, 0] rfl)
theorem d_MO_sizeOf_0 : decode b_MO_sizeOf 0 = .ok (.iload_n 1, 1) := by decide +kernel
theorem d_MO_sizeOf_1 : decode b_MO_sizeOf 1 = .ok (.aload_n 0, 1) := by decide +kernel
theorem d_MO_sizeOf_2 : decode b_MO_sizeOf 2 = .ok (.getfield 13, 3) := by decide +kernel
theorem d_MO_sizeOf_5 : decode b_MO_sizeOf 5 = .ok (.iconst 2, 1) := by decide +kernel
theorem d_MO_sizeOf_6 : decode b_MO_sizeOf 6 = .ok (.invokestatic 33, 3) := by decide +kernel
theorem d_MO_sizeOf_9 : decode b_MO_sizeOf 9 = .ok (.isub, 1) := by decide +kernel
theorem d_MO_sizeOf_10 : decode b_MO_sizeOf 10 = .ok (.istore_n 3, 1) := by decide +kernel
theorem d_MO_sizeOf_11 : decode b_MO_sizeOf 11 = .ok (.iload_n 2, 1) := by decide +kernel
theorem d_MO_sizeOf_12 : decode b_MO_sizeOf 12 = .ok (.ifCond .ne 16, 3) := by decide +kernel
theorem d_MO_sizeOf_15 : decode b_MO_sizeOf 15 = .ok (.aload_n 0, 1) := by decide +kernel
theorem d_MO_sizeOf_16 : decode b_MO_sizeOf 16 = .ok (.getfield 13, 3) := by decide +kernel
theorem d_MO_sizeOf_19 : decode b_MO_sizeOf 19 = .ok (.iconst 1, 1) := by decide +kernel
theorem d_MO_sizeOf_20 : decode b_MO_sizeOf 20 = .ok (.iload_n 3, 1) := by decide +kernel
theorem d_MO_sizeOf_21 : decode b_MO_sizeOf 21 = .ok (.iconst 0, 1) := by decide +kernel
theorem d_MO_sizeOf_22 : decode b_MO_sizeOf 22 = .ok (.invokestatic 43, 3) := by decide +kernel
theorem d_MO_sizeOf_25 : decode b_MO_sizeOf 25 = .ok (.goto 57, 3) := by decide +kernel
theorem d_MO_sizeOf_28 : decode b_MO_sizeOf 28 = .ok (.iload_n 2, 1) := by decide +kernel
theorem d_MO_sizeOf_29 : decode b_MO_sizeOf 29 = .ok (.iconst 1, 1) := by decide +kernel
theorem d_MO_sizeOf_30 : decode b_MO_sizeOf 30 = .ok (.if_icmp .ne 19, 3) := by decide +kernel
theorem d_MO_sizeOf_33 : decode b_MO_sizeOf 33 = .ok (.aload_n 0, 1) := by decide +kernel
theorem d_MO_sizeOf_34 : decode b_MO_sizeOf 34 = .ok (.getfield 13, 3) := by decide +kernel
theorem d_MO_sizeOf_37 : decode b_MO_sizeOf 37 = .ok (.iconst 1, 1) := by decide +kernel
theorem d_MO_sizeOf_38 : decode b_MO_sizeOf 38 = .ok (.iload_n 3, 1) := by decide +kernel
theorem d_MO_sizeOf_39 : decode b_MO_sizeOf 39 = .ok (.iconst 1, 1) := by decide +kernel
theorem d_MO_sizeOf_40 : decode b_MO_sizeOf 40 = .ok (.invokestatic 43, 3) := by decide +kernel
theorem d_MO_sizeOf_43 : decode b_MO_sizeOf 43 = .ok (.bipush 16, 2) := by decide +kernel
theorem d_MO_sizeOf_45 : decode b_MO_sizeOf 45 = .ok (.idiv, 1) := by decide +kernel
theorem d_MO_sizeOf_46 : decode b_MO_sizeOf 46 = .ok (.goto 36, 3) := by decide +kernel
theorem d_MO_sizeOf_49 : decode b_MO_sizeOf 49 = .ok (.iload_n 2, 1) := by decide +kernel
theorem d_MO_sizeOf_50 : decode b_MO_sizeOf 50 = .ok (.iconst 2, 1) := by decide +kernel
theorem d_MO_sizeOf_51 : decode b_MO_sizeOf 51 = .ok (.if_icmp .ne 19, 3) := by decide +kernel
theorem d_MO_sizeOf_54 : decode b_MO_sizeOf 54 = .ok (.aload_n 0, 1) := by decide +kernel
theorem d_MO_sizeOf_55 : decode b_MO_sizeOf 55 = .ok (.getfield 13, 3) := by decide +kernel
theorem d_MO_sizeOf_58 : decode b_MO_sizeOf 58 = .ok (.iconst 1, 1) := by decide +kernel
theorem d_MO_sizeOf_59 : decode b_MO_sizeOf 59 = .ok (.iload_n 3, 1) := by decide +kernel
theorem d_MO_sizeOf_60 : decode b_MO_sizeOf 60 = .ok (.iconst 1, 1) := by decide +kernel
theorem d_MO_sizeOf_61 : decode b_MO_sizeOf 61 = .ok (.invokestatic 43, 3) := by decide +kernel
theorem d_MO_sizeOf_64 : decode b_MO_sizeOf 64 = .ok (.bipush 16, 2) := by decide +kernel
theorem d_MO_sizeOf_66 : decode b_MO_sizeOf 66 = .ok (.irem, 1) := by decide +kernel
theorem d_MO_sizeOf_67 : decode b_MO_sizeOf 67 = .ok (.goto 15, 3) := by decide +kernel
theorem d_MO_sizeOf_70 : decode b_MO_sizeOf 70 = .ok (.aload_n 0, 1) := by decide +kernel
theorem d_MO_sizeOf_71 : decode b_MO_sizeOf 71 = .ok (.getfield 13, 3) := by decide +kernel
theorem d_MO_sizeOf_74 : decode b_MO_sizeOf 74 = .ok (.iconst 1, 1) := by decide +kernel
theorem d_MO_sizeOf_75 : decode b_MO_sizeOf 75 = .ok (.iload_n 3, 1) := by decide +kernel
theorem d_MO_sizeOf_76 : decode b_MO_sizeOf 76 = .ok (.iconst 2, 1) := by decide +kernel
theorem d_MO_sizeOf_77 : decode b_MO_sizeOf 77 = .ok (.invokestatic 43, 3) := by decide +kernel
theorem d_MO_sizeOf_80 : decode b_MO_sizeOf 80 = .ok (.iconst 4, 1) := by decide +kernel
theorem d_MO_sizeOf_81 : decode b_MO_sizeOf 81 = .ok (.idiv, 1) := by decide +kernel
theorem d_MO_sizeOf_82 : decode b_MO_sizeOf 82 = .ok (.istore 4, 2) := by decide +kernel
theorem d_MO_sizeOf_84 : decode b_MO_sizeOf 84 = .ok (.aload_n 0, 1) := by decide +kernel
theorem d_MO_sizeOf_85 : decode b_MO_sizeOf 85 = .ok (.iconst 2, 1) := by decide +kernel
theorem d_MO_sizeOf_86 : decode b_MO_sizeOf 86 = .ok (.iload_n 2, 1) := by decide +kernel
theorem d_MO_sizeOf_87 : decode b_MO_sizeOf 87 = .ok (.iadd, 1) := by decide +kernel
theorem d_MO_sizeOf_88 : decode b_MO_sizeOf 88 = .ok (.iload 4, 2) := by decide +kernel
theorem d_MO_sizeOf_90 : decode b_MO_sizeOf 90 = .ok (.invokevirtual 124, 3) := by decide +kernel
theorem d_MO_sizeOf_93 : decode b_MO_sizeOf 93 = .ok (.ireturn, 1) := by decide +kernel
set_option maxHeartbeats 4000000 in
set_option maxRecDepth 100000 in
theorem c_MO_sizeOf (l : Launch) (dC : Nat → ClassId) (dI : Nat → Nat → Nat) (h : Nat) (th : Int32) (fa : Nat) (n0 : Int32) (ga : Nat) (ld : Int32) (s0 : Nat) (ra : Nat) (rz : Int32) (ka : Nat) (wa : Nat) (ct : Int32) (cB : ClassId) (g : Nat → Int32) (c : Nat) (w : Nat) (hL : fm_Len (fm_RB g)) (h1 : fm_HF (fm_RB g) 2 ≤ c) (h2 : c ≤ fm_HF (fm_RB g) 3) (hz : fm_all (fm_WD (fm_RB g) 1) (fm_size1 (fm_RB g)) = true) (hs : s0 < 134217728) (hw : w < 4) : fm_M l (dC, dI) y_MO_sizeOf w_MO_sizeOf ({ frames := 5, cells := 0, slots := 0, locals := 117 }) [.ref h, .int (nI (c)), .int (nI (w))] [(h, .inr (4, [.int (th), .ref fa, .int (n0), .ref ga, .int (ld), .int (nI (s0)), .ref ra, .int (rz), .ref ka, .ref wa, .int (ct)])), (ga, .inl (cB, 8192, .inl (g)))] [(cB, .byte)] ((fm_sc (fm_RB g) s0 (2 + w) (fm_pl (fm_RB g) c w))) := by
  refine Met.ofW (cc := b_MO_sizeOf) (maxL := 5) (ret := (some .int)) (by decide) rfl ?_
  intro pg ev s m args below meth cd s₁ BD hml hv
  obtain ⟨rfl, hP, hK⟩ := hv
  have hx := BD.exec
  have hb := BD.bytes
  have hr := BD.returns
  have hts := atoms_spec (ws := w_MO_sizeOf) BD.pre
  have ht : ∀ w ∈ fm_T, w.before _ s = true := fun w h => hts w (List.mem_cons_of_mem _ h)
  have hown : s.vm.findClass R_MO = some m.cls := findClass_of_methodNamed BD.named
  have hlocks := BD.notSynchronized
  have S : CallFix pg m cd b_MO_sizeOf 5 s _ w_MO_sizeOf R_MO := ⟨hx, hb, hml, hown, hts⟩
  have hl := lv_entry ([.ref h, .int (nI (c)), .int (nI (w))]) (n := 5) (Nat.le_of_ble_eq_true rfl)
  rw [lg_entry_eq]
  generalize (lg_sl ([.ref h, .int (nI (c)), .int (nI (w))]) ++ List.replicate (5 - (lg_sl ([.ref h, .int (nI (c)), .int (nI (w))])).length) Slot.unset).toArray = ls at hl ⊢
  have hl : lv_has ls 5 [(0, .ref h), (1, .int (nI (c))), (2, .int (nI (w)))] := hl
  obtain ⟨-, hq, h3, h10⟩ := id hL
  have hci := fm_cin hL h1 h2
  have hpl := fm_pl_lt hz h1 h2 hw
  refine lv_iload_n hx hb d_MO_sizeOf_0 rfl (lv_at hl 1 rfl) ?_
  refine lv_aload_n hx hb d_MO_sizeOf_1 rfl (lv_at hl 0 rfl) ?_
  refine va_get (D := (dC, dI)) (ci := 4) (v := .ref ga) (C := R_MO) (T := F_MO) (N := 11) hx hb ht i_MO hown hK hP 0 rfl rfl 3 (by decide) (ht _ q_3_116) (fun _ h9 => h9) rfl d_MO_sizeOf_2 ?_
  refine lv_iconst (v := nI (2)) hx hb d_MO_sizeOf_5 (by decide) ?_
  refine fm_cs S (c_MO_half l dC dI ga cB g 2 (by omega)) rfl rfl k_MO_half q_3_172 ⟨Nat.le_of_ble_eq_true rfl, Nat.le_of_ble_eq_true rfl⟩ (hP.sub [1] rfl) (hK.sub [0] rfl) rfl hl.1 rfl (Nat.le_of_ble_eq_true rfl) ⟨Nat.zero_le _, Nat.zero_le _⟩ d_MO_sizeOf_6 ?_
  have f0_6 := fm_HF_lt (fm_RB_lt g) 2
  refine lv_isub hx hb d_MO_sizeOf_9 ?_
  refine fm_tw (z := nI (c - (fm_HF (fm_RB g) 2))) (pk_sub (by omega)) ?_
  refine lv_istore_n (lv' := [(3, .int (nI (c - (fm_HF (fm_RB g) 2)))), (0, .ref h), (1, .int (nI (c))), (2, .int (nI (w)))]) hx hb d_MO_sizeOf_10 rfl hl (by decide) rfl (fun ls hl => ?_)
  refine lv_iload_n hx hb d_MO_sizeOf_11 rfl (lv_at hl 3 rfl) ?_
  refine lv_if_ne (tgt := 28) hx hb d_MO_sizeOf_12 (by decide) (fun c0 => ?_) (fun c0 => ?_)
  · have c_12 : ¬ (w = 0) := fun z => c0 ((nI_eq (a := w) (b := 0) (by omega) (by omega)).mpr z)
    refine lv_iload_n hx hb d_MO_sizeOf_28 rfl (lv_at hl 3 rfl) ?_
    refine lv_iconst (v := nI (1)) hx hb d_MO_sizeOf_29 (by decide) ?_
    refine lv_icmp_ne (tgt := 49) hx hb d_MO_sizeOf_30 (by decide) (fun c0 => ?_) (fun c0 => ?_)
    · have c_30 : ¬ (w = 1) := fun z => c0 ((nI_eq (a := w) (b := 1) (by omega) (by omega)).mpr z)
      refine lv_iload_n hx hb d_MO_sizeOf_49 rfl (lv_at hl 3 rfl) ?_
      refine lv_iconst (v := nI (2)) hx hb d_MO_sizeOf_50 (by decide) ?_
      refine lv_icmp_ne (tgt := 70) hx hb d_MO_sizeOf_51 (by decide) (fun c0 => ?_) (fun c0 => ?_)
      · have c_51 : ¬ (w = 2) := fun z => c0 ((nI_eq (a := w) (b := 2) (by omega) (by omega)).mpr z)
        refine lv_aload_n hx hb d_MO_sizeOf_70 rfl (lv_at hl 1 rfl) ?_
        refine va_get (D := (dC, dI)) (ci := 4) (v := .ref ga) (C := R_MO) (T := F_MO) (N := 11) hx hb ht i_MO hown hK hP 0 rfl rfl 3 (by decide) (ht _ q_3_116) (fun _ h9 => h9) rfl d_MO_sizeOf_71 ?_
        refine lv_iconst (v := nI (1)) hx hb d_MO_sizeOf_74 (by decide) ?_
        refine lv_iload_n hx hb d_MO_sizeOf_75 rfl (lv_at hl 0 rfl) ?_
        refine lv_iconst (v := nI (2)) hx hb d_MO_sizeOf_76 (by decide) ?_
        refine fm_cs S (c_MO_at l dC dI ga cB g 1 (c - (fm_HF (fm_RB g) 2)) 2 (by omega) (hq) (by omega) (by omega)) rfl rfl k_MO_at q_3_184 ⟨Nat.le_of_ble_eq_true rfl, Nat.le_of_ble_eq_true rfl⟩ (hP.sub [1] rfl) (hK.sub [0] rfl) rfl hl.1 rfl (Nat.le_of_ble_eq_true rfl) ⟨Nat.zero_le _, Nat.zero_le _⟩ d_MO_sizeOf_77 ?_
        have f0_77 := fm_AT_lt (fm_RB_lt g) 1 (c - (fm_HF (fm_RB g) 2)) 2
        refine lv_iconst (v := nI (4)) hx hb d_MO_sizeOf_80 (by decide) ?_
        refine lv_idiv hx hb d_MO_sizeOf_81 (by decide) ?_
        refine fm_tw (z := nI ((fm_AT (fm_RB g) 1 (c - (fm_HF (fm_RB g) 2)) 2) / 4)) (pk_div (by omega) (by omega) (by omega)) ?_
        refine fm_tw (z := nI (fm_pl (fm_RB g) c w)) (by first | (rw [c_12]; rfl) | (rw [c_30]; rfl) | (rw [c_51]; rfl) | (rw [show w = 3 by omega]; rfl)) ?_
        refine lv_istore (lv' := [(4, .int (nI (fm_pl (fm_RB g) c w))), (3, .int (nI (c - (fm_HF (fm_RB g) 2)))), (0, .ref h), (1, .int (nI (c))), (2, .int (nI (w)))]) hx hb d_MO_sizeOf_82 hl (by decide) rfl (fun ls hl => ?_)
        refine lv_aload_n hx hb d_MO_sizeOf_84 rfl (lv_at hl 2 rfl) ?_
        refine lv_iconst (v := nI (2)) hx hb d_MO_sizeOf_85 (by decide) ?_
        refine lv_iload_n hx hb d_MO_sizeOf_86 rfl (lv_at hl 4 rfl) ?_
        refine lv_iadd hx hb d_MO_sizeOf_87 ?_
        refine fm_tw (z := nI (2 + w)) (nI_add _ _) ?_
        refine lv_iload hx hb d_MO_sizeOf_88 (lv_at hl 0 rfl) ?_
        refine fm_cv S (c_MO_scaled l dC dI h th fa n0 ga ld s0 ra rz ka wa ct cB g (2 + w) (fm_pl (fm_RB g) c w) (hL) (by omega) (by omega) (fm_pin hL (by omega) hpl)) rfl rfl k_MO_scaled q_4_6 ⟨Nat.le_of_ble_eq_true rfl, Nat.le_of_ble_eq_true rfl⟩ (hP.sub [0, 1] rfl) (hK.sub [0] rfl) 0 rfl rfl rfl hl.1 rfl (Nat.le_of_ble_eq_true rfl) ⟨Nat.zero_le _, Nat.zero_le _⟩ d_MO_sizeOf_90 ?_
        exact W.iret hx hb hr (fun t ht hW => ⟨_, rfl, rfl, ht⟩) (fun q hq => by cases hq) d_MO_sizeOf_93
      · have c_51 : w = 2 := (nI_eq (a := w) (b := 2) (by omega) (by omega)).mp c0
        refine lv_aload_n hx hb d_MO_sizeOf_54 rfl (lv_at hl 1 rfl) ?_
        refine va_get (D := (dC, dI)) (ci := 4) (v := .ref ga) (C := R_MO) (T := F_MO) (N := 11) hx hb ht i_MO hown hK hP 0 rfl rfl 3 (by decide) (ht _ q_3_116) (fun _ h9 => h9) rfl d_MO_sizeOf_55 ?_
        refine lv_iconst (v := nI (1)) hx hb d_MO_sizeOf_58 (by decide) ?_
        refine lv_iload_n hx hb d_MO_sizeOf_59 rfl (lv_at hl 0 rfl) ?_
        refine lv_iconst (v := nI (1)) hx hb d_MO_sizeOf_60 (by decide) ?_
        refine fm_cs S (c_MO_at l dC dI ga cB g 1 (c - (fm_HF (fm_RB g) 2)) 1 (by omega) (hq) (by omega) (by omega)) rfl rfl k_MO_at q_3_184 ⟨Nat.le_of_ble_eq_true rfl, Nat.le_of_ble_eq_true rfl⟩ (hP.sub [1] rfl) (hK.sub [0] rfl) rfl hl.1 rfl (Nat.le_of_ble_eq_true rfl) ⟨Nat.zero_le _, Nat.zero_le _⟩ d_MO_sizeOf_61 ?_
        have f0_61 := fm_AT_lt (fm_RB_lt g) 1 (c - (fm_HF (fm_RB g) 2)) 1
        refine lv_bipush (v := nI (16)) hx hb d_MO_sizeOf_64 (by decide) ?_
        refine lv_irem hx hb d_MO_sizeOf_66 (by decide) ?_
        refine fm_tw (z := nI ((fm_AT (fm_RB g) 1 (c - (fm_HF (fm_RB g) 2)) 1) % 16)) (pk_rem (by omega) (by omega) (by omega)) ?_
        refine lv_goto (tgt := 82) hx hb d_MO_sizeOf_67 (by decide) ?_
        refine fm_tw (z := nI (fm_pl (fm_RB g) c w)) (by first | (rw [c_12]; rfl) | (rw [c_30]; rfl) | (rw [c_51]; rfl) | (rw [show w = 3 by omega]; rfl)) ?_
        refine lv_istore (lv' := [(4, .int (nI (fm_pl (fm_RB g) c w))), (3, .int (nI (c - (fm_HF (fm_RB g) 2)))), (0, .ref h), (1, .int (nI (c))), (2, .int (nI (w)))]) hx hb d_MO_sizeOf_82 hl (by decide) rfl (fun ls hl => ?_)
        refine lv_aload_n hx hb d_MO_sizeOf_84 rfl (lv_at hl 2 rfl) ?_
        refine lv_iconst (v := nI (2)) hx hb d_MO_sizeOf_85 (by decide) ?_
        refine lv_iload_n hx hb d_MO_sizeOf_86 rfl (lv_at hl 4 rfl) ?_
        refine lv_iadd hx hb d_MO_sizeOf_87 ?_
        refine fm_tw (z := nI (2 + w)) (nI_add _ _) ?_
        refine lv_iload hx hb d_MO_sizeOf_88 (lv_at hl 0 rfl) ?_
        refine fm_cv S (c_MO_scaled l dC dI h th fa n0 ga ld s0 ra rz ka wa ct cB g (2 + w) (fm_pl (fm_RB g) c w) (hL) (by omega) (by omega) (fm_pin hL (by omega) hpl)) rfl rfl k_MO_scaled q_4_6 ⟨Nat.le_of_ble_eq_true rfl, Nat.le_of_ble_eq_true rfl⟩ (hP.sub [0, 1] rfl) (hK.sub [0] rfl) 0 rfl rfl rfl hl.1 rfl (Nat.le_of_ble_eq_true rfl) ⟨Nat.zero_le _, Nat.zero_le _⟩ d_MO_sizeOf_90 ?_
        exact W.iret hx hb hr (fun t ht hW => ⟨_, rfl, rfl, ht⟩) (fun q hq => by cases hq) d_MO_sizeOf_93
    · have c_30 : w = 1 := (nI_eq (a := w) (b := 1) (by omega) (by omega)).mp c0
      refine lv_aload_n hx hb d_MO_sizeOf_33 rfl (lv_at hl 1 rfl) ?_
      refine va_get (D := (dC, dI)) (ci := 4) (v := .ref ga) (C := R_MO) (T := F_MO) (N := 11) hx hb ht i_MO hown hK hP 0 rfl rfl 3 (by decide) (ht _ q_3_116) (fun _ h9 => h9) rfl d_MO_sizeOf_34 ?_
      refine lv_iconst (v := nI (1)) hx hb d_MO_sizeOf_37 (by decide) ?_
      refine lv_iload_n hx hb d_MO_sizeOf_38 rfl (lv_at hl 0 rfl) ?_
      refine lv_iconst (v := nI (1)) hx hb d_MO_sizeOf_39 (by decide) ?_
      refine fm_cs S (c_MO_at l dC dI ga cB g 1 (c - (fm_HF (fm_RB g) 2)) 1 (by omega) (hq) (by omega) (by omega)) rfl rfl k_MO_at q_3_184 ⟨Nat.le_of_ble_eq_true rfl, Nat.le_of_ble_eq_true rfl⟩ (hP.sub [1] rfl) (hK.sub [0] rfl) rfl hl.1 rfl (Nat.le_of_ble_eq_true rfl) ⟨Nat.zero_le _, Nat.zero_le _⟩ d_MO_sizeOf_40 ?_
      have f0_40 := fm_AT_lt (fm_RB_lt g) 1 (c - (fm_HF (fm_RB g) 2)) 1
      refine lv_bipush (v := nI (16)) hx hb d_MO_sizeOf_43 (by decide) ?_
      refine lv_idiv hx hb d_MO_sizeOf_45 (by decide) ?_
      refine fm_tw (z := nI ((fm_AT (fm_RB g) 1 (c - (fm_HF (fm_RB g) 2)) 1) / 16)) (pk_div (by omega) (by omega) (by omega)) ?_
      refine lv_goto (tgt := 82) hx hb d_MO_sizeOf_46 (by decide) ?_
      refine fm_tw (z := nI (fm_pl (fm_RB g) c w)) (by first | (rw [c_12]; rfl) | (rw [c_30]; rfl) | (rw [c_51]; rfl) | (rw [show w = 3 by omega]; rfl)) ?_
      refine lv_istore (lv' := [(4, .int (nI (fm_pl (fm_RB g) c w))), (3, .int (nI (c - (fm_HF (fm_RB g) 2)))), (0, .ref h), (1, .int (nI (c))), (2, .int (nI (w)))]) hx hb d_MO_sizeOf_82 hl (by decide) rfl (fun ls hl => ?_)
      refine lv_aload_n hx hb d_MO_sizeOf_84 rfl (lv_at hl 2 rfl) ?_
      refine lv_iconst (v := nI (2)) hx hb d_MO_sizeOf_85 (by decide) ?_
      refine lv_iload_n hx hb d_MO_sizeOf_86 rfl (lv_at hl 4 rfl) ?_
      refine lv_iadd hx hb d_MO_sizeOf_87 ?_
      refine fm_tw (z := nI (2 + w)) (nI_add _ _) ?_
      refine lv_iload hx hb d_MO_sizeOf_88 (lv_at hl 0 rfl) ?_
      refine fm_cv S (c_MO_scaled l dC dI h th fa n0 ga ld s0 ra rz ka wa ct cB g (2 + w) (fm_pl (fm_RB g) c w) (hL) (by omega) (by omega) (fm_pin hL (by omega) hpl)) rfl rfl k_MO_scaled q_4_6 ⟨Nat.le_of_ble_eq_true rfl, Nat.le_of_ble_eq_true rfl⟩ (hP.sub [0, 1] rfl) (hK.sub [0] rfl) 0 rfl rfl rfl hl.1 rfl (Nat.le_of_ble_eq_true rfl) ⟨Nat.zero_le _, Nat.zero_le _⟩ d_MO_sizeOf_90 ?_
      exact W.iret hx hb hr (fun t ht hW => ⟨_, rfl, rfl, ht⟩) (fun q hq => by cases hq) d_MO_sizeOf_93
  · have c_12 : w = 0 := (nI_eq (a := w) (b := 0) (by omega) (by omega)).mp c0
    refine lv_aload_n hx hb d_MO_sizeOf_15 rfl (lv_at hl 1 rfl) ?_
    refine va_get (D := (dC, dI)) (ci := 4) (v := .ref ga) (C := R_MO) (T := F_MO) (N := 11) hx hb ht i_MO hown hK hP 0 rfl rfl 3 (by decide) (ht _ q_3_116) (fun _ h9 => h9) rfl d_MO_sizeOf_16 ?_
    refine lv_iconst (v := nI (1)) hx hb d_MO_sizeOf_19 (by decide) ?_
    refine lv_iload_n hx hb d_MO_sizeOf_20 rfl (lv_at hl 0 rfl) ?_
    refine lv_iconst (v := nI (0)) hx hb d_MO_sizeOf_21 (by decide) ?_
    refine fm_cs S (c_MO_at l dC dI ga cB g 1 (c - (fm_HF (fm_RB g) 2)) 0 (by omega) (hq) (by omega) (by omega)) rfl rfl k_MO_at q_3_184 ⟨Nat.le_of_ble_eq_true rfl, Nat.le_of_ble_eq_true rfl⟩ (hP.sub [1] rfl) (hK.sub [0] rfl) rfl hl.1 rfl (Nat.le_of_ble_eq_true rfl) ⟨Nat.zero_le _, Nat.zero_le _⟩ d_MO_sizeOf_22 ?_
    have f0_22 := fm_AT_lt (fm_RB_lt g) 1 (c - (fm_HF (fm_RB g) 2)) 0
    refine lv_goto (tgt := 82) hx hb d_MO_sizeOf_25 (by decide) ?_
    refine fm_tw (z := nI (fm_pl (fm_RB g) c w)) (by first | (rw [c_12]; rfl) | (rw [c_30]; rfl) | (rw [c_51]; rfl) | (rw [show w = 3 by omega]; rfl)) ?_
    refine lv_istore (lv' := [(4, .int (nI (fm_pl (fm_RB g) c w))), (3, .int (nI (c - (fm_HF (fm_RB g) 2)))), (0, .ref h), (1, .int (nI (c))), (2, .int (nI (w)))]) hx hb d_MO_sizeOf_82 hl (by decide) rfl (fun ls hl => ?_)
    refine lv_aload_n hx hb d_MO_sizeOf_84 rfl (lv_at hl 2 rfl) ?_
    refine lv_iconst (v := nI (2)) hx hb d_MO_sizeOf_85 (by decide) ?_
    refine lv_iload_n hx hb d_MO_sizeOf_86 rfl (lv_at hl 4 rfl) ?_
    refine lv_iadd hx hb d_MO_sizeOf_87 ?_
    refine fm_tw (z := nI (2 + w)) (nI_add _ _) ?_
    refine lv_iload hx hb d_MO_sizeOf_88 (lv_at hl 0 rfl) ?_
    refine fm_cv S (c_MO_scaled l dC dI h th fa n0 ga ld s0 ra rz ka wa ct cB g (2 + w) (fm_pl (fm_RB g) c w) (hL) (by omega) (by omega) (fm_pin hL (by omega) hpl)) rfl rfl k_MO_scaled q_4_6 ⟨Nat.le_of_ble_eq_true rfl, Nat.le_of_ble_eq_true rfl⟩ (hP.sub [0, 1] rfl) (hK.sub [0] rfl) 0 rfl rfl rfl hl.1 rfl (Nat.le_of_ble_eq_true rfl) ⟨Nat.zero_le _, Nat.zero_le _⟩ d_MO_sizeOf_90 ?_
    exact W.iret hx hb hr (fun t ht hW => ⟨_, rfl, rfl, ht⟩) (fun q hq => by cases hq) d_MO_sizeOf_93
theorem d_MO_mayAsk_0 : decode b_MO_mayAsk 0 = .ok (.iload_n 1, 1) := by decide +kernel
theorem d_MO_mayAsk_1 : decode b_MO_mayAsk 1 = .ok (.sipush 256, 3) := by decide +kernel
theorem d_MO_mayAsk_4 : decode b_MO_mayAsk 4 = .ok (.if_icmp .eq 14, 3) := by decide +kernel
theorem d_MO_mayAsk_7 : decode b_MO_mayAsk 7 = .ok (.aload_n 0, 1) := by decide +kernel
theorem d_MO_mayAsk_8 : decode b_MO_mayAsk 8 = .ok (.getfield 13, 3) := by decide +kernel
theorem d_MO_mayAsk_11 : decode b_MO_mayAsk 11 = .ok (.iload_n 1, 1) := by decide +kernel
theorem d_MO_mayAsk_12 : decode b_MO_mayAsk 12 = .ok (.invokestatic 53, 3) := by decide +kernel
theorem d_MO_mayAsk_15 : decode b_MO_mayAsk 15 = .ok (.ifCond .eq 7, 3) := by decide +kernel
theorem d_MO_mayAsk_18 : decode b_MO_mayAsk 18 = .ok (.iconst 1, 1) := by decide +kernel
theorem d_MO_mayAsk_19 : decode b_MO_mayAsk 19 = .ok (.goto 4, 3) := by decide +kernel
theorem d_MO_mayAsk_22 : decode b_MO_mayAsk 22 = .ok (.iconst 0, 1) := by decide +kernel
theorem d_MO_mayAsk_23 : decode b_MO_mayAsk 23 = .ok (.ireturn, 1) := by decide +kernel
set_option maxHeartbeats 4000000 in
set_option maxRecDepth 100000 in
theorem c_MO_mayAsk (l : Launch) (dC : Nat → ClassId) (dI : Nat → Nat → Nat) (h : Nat) (th : Int32) (fa : Nat) (n0 : Int32) (ga : Nat) (ld : Int32) (sz : Int32) (ra : Nat) (rz : Int32) (ka : Nat) (wa : Nat) (ct : Int32) (cB : ClassId) (g : Nat → Int32) (x : Int32) (hL : fm_Len (fm_RB g)) : fm_M l (dC, dI) y_MO_mayAsk w_MO_mayAsk ({ frames := 5, cells := 0, slots := 0, locals := 109 }) [.ref h, .int (x)] [(h, .inr (4, [.int (th), .ref fa, .int (n0), .ref ga, .int (ld), .int (sz), .ref ra, .int (rz), .ref ka, .ref wa, .int (ct)])), (ga, .inl (cB, 8192, .inl (g)))] [(cB, .byte)] ((fm_bI (decide (x = nI 256) || fm_thI (fm_RB g) x))) := by
  refine Met.ofW (cc := b_MO_mayAsk) (maxL := 2) (ret := (some .boolean)) (by decide) rfl ?_
  intro pg ev s m args below meth cd s₁ BD hml hv
  obtain ⟨rfl, hP, hK⟩ := hv
  have hx := BD.exec
  have hb := BD.bytes
  have hr := BD.returns
  have hts := atoms_spec (ws := w_MO_mayAsk) BD.pre
  have ht : ∀ w ∈ fm_T, w.before _ s = true := fun w h => hts w (List.mem_cons_of_mem _ h)
  have hown : s.vm.findClass R_MO = some m.cls := findClass_of_methodNamed BD.named
  have hlocks := BD.notSynchronized
  have S : CallFix pg m cd b_MO_mayAsk 2 s _ w_MO_mayAsk R_MO := ⟨hx, hb, hml, hown, hts⟩
  have hl := lv_entry ([.ref h, .int (x)]) (n := 2) (Nat.le_of_ble_eq_true rfl)
  rw [lg_entry_eq]
  generalize (lg_sl ([.ref h, .int (x)]) ++ List.replicate (2 - (lg_sl ([.ref h, .int (x)])).length) Slot.unset).toArray = ls at hl ⊢
  have hl : lv_has ls 2 [(0, .ref h), (1, .int (x))] := hl
  obtain ⟨-, hq, h3, h10⟩ := id hL
  refine lv_iload_n hx hb d_MO_mayAsk_0 rfl (lv_at hl 1 rfl) ?_
  refine lv_sipush (v := nI (256)) hx hb d_MO_mayAsk_1 (by decide) ?_
  refine lv_icmp_eq (tgt := 18) hx hb d_MO_mayAsk_4 (by decide) (fun c0 => ?_) (fun c0 => ?_)
  · have c_4 := c0
    refine lv_iconst (v := nI (1)) hx hb d_MO_mayAsk_18 (by decide) ?_
    refine lv_goto (tgt := 23) hx hb d_MO_mayAsk_19 (by decide) ?_
    exact W.zret (ty := .boolean) hx hb hr (rfl) (fun t ht hW => ⟨_, rfl, by first | exact fm_bI_1 (by rw [decide_eq_true c_4]; rfl) | exact fm_bI_1 (by rw [c_15, Bool.or_true]) | exact fm_bI_0 (by rw [decide_eq_false c_4, c_15]; rfl), ht⟩) (fun q hq => by cases hq) d_MO_mayAsk_23
  · have c_4 := c0
    refine lv_aload_n hx hb d_MO_mayAsk_7 rfl (lv_at hl 0 rfl) ?_
    refine va_get (D := (dC, dI)) (ci := 4) (v := .ref ga) (C := R_MO) (T := F_MO) (N := 11) hx hb ht i_MO hown hK hP 0 rfl rfl 3 (by decide) (ht _ q_3_116) (fun _ h9 => h9) rfl d_MO_mayAsk_8 ?_
    refine lv_iload_n hx hb d_MO_mayAsk_11 rfl (lv_at hl 1 rfl) ?_
    refine fm_cs S (c_MO_isThere l dC dI ga cB g x (hL)) rfl rfl k_MO_isThere q_3_194 ⟨Nat.le_of_ble_eq_true rfl, Nat.le_of_ble_eq_true rfl⟩ (hP.sub [1] rfl) (hK.sub [0] rfl) rfl hl.1 rfl (Nat.le_of_ble_eq_true rfl) ⟨Nat.zero_le _, Nat.zero_le _⟩ d_MO_mayAsk_12 ?_
    refine lv_if_eq (tgt := 22) hx hb d_MO_mayAsk_15 (by decide) (fun c0 => ?_) (fun c0 => ?_)
    · have c_15 : (fm_thI (fm_RB g) x) = false := fm_bI_f c0
      refine lv_iconst (v := nI (0)) hx hb d_MO_mayAsk_22 (by decide) ?_
      exact W.zret (ty := .boolean) hx hb hr (rfl) (fun t ht hW => ⟨_, rfl, by first | exact fm_bI_1 (by rw [decide_eq_true c_4]; rfl) | exact fm_bI_1 (by rw [c_15, Bool.or_true]) | exact fm_bI_0 (by rw [decide_eq_false c_4, c_15]; rfl), ht⟩) (fun q hq => by cases hq) d_MO_mayAsk_23
    · have c_15 : (fm_thI (fm_RB g) x) = true := fm_bI_t c0
      refine lv_iconst (v := nI (1)) hx hb d_MO_mayAsk_18 (by decide) ?_
      refine lv_goto (tgt := 23) hx hb d_MO_mayAsk_19 (by decide) ?_
      exact W.zret (ty := .boolean) hx hb hr (rfl) (fun t ht hW => ⟨_, rfl, by first | exact fm_bI_1 (by rw [decide_eq_true c_4]; rfl) | exact fm_bI_1 (by rw [c_15, Bool.or_true]) | exact fm_bI_0 (by rw [decide_eq_false c_4, c_15]; rfl), ht⟩) (fun q hq => by cases hq) d_MO_mayAsk_23
theorem d_MO_found_0 : decode b_MO_found 0 = .ok (.iload_n 1, 1) := by decide +kernel
theorem d_MO_found_1 : decode b_MO_found 1 = .ok (.sipush 256, 3) := by decide +kernel
theorem d_MO_found_4 : decode b_MO_found 4 = .ok (.if_icmp .ne 13, 3) := by decide +kernel
theorem d_MO_found_7 : decode b_MO_found 7 = .ok (.aload_n 0, 1) := by decide +kernel
theorem d_MO_found_8 : decode b_MO_found 8 = .ok (.getfield 13, 3) := by decide +kernel
theorem d_MO_found_11 : decode b_MO_found 11 = .ok (.invokestatic 121, 3) := by decide +kernel
theorem d_MO_found_14 : decode b_MO_found 14 = .ok (.goto 27, 3) := by decide +kernel
theorem d_MO_found_17 : decode b_MO_found 17 = .ok (.aload_n 0, 1) := by decide +kernel
theorem d_MO_found_18 : decode b_MO_found 18 = .ok (.getfield 13, 3) := by decide +kernel
theorem d_MO_found_21 : decode b_MO_found 21 = .ok (.iload_n 1, 1) := by decide +kernel
theorem d_MO_found_22 : decode b_MO_found 22 = .ok (.invokestatic 57, 3) := by decide +kernel
theorem d_MO_found_25 : decode b_MO_found 25 = .ok (.iconst 1, 1) := by decide +kernel
theorem d_MO_found_26 : decode b_MO_found 26 = .ok (.if_icmp .ne 14, 3) := by decide +kernel
theorem d_MO_found_29 : decode b_MO_found 29 = .ok (.aload_n 0, 1) := by decide +kernel
theorem d_MO_found_30 : decode b_MO_found 30 = .ok (.getfield 13, 3) := by decide +kernel
theorem d_MO_found_33 : decode b_MO_found 33 = .ok (.iload_n 1, 1) := by decide +kernel
theorem d_MO_found_34 : decode b_MO_found 34 = .ok (.invokestatic 50, 3) := by decide +kernel
theorem d_MO_found_37 : decode b_MO_found 37 = .ok (.goto 4, 3) := by decide +kernel
theorem d_MO_found_40 : decode b_MO_found 40 = .ok (.iconst (-1), 1) := by decide +kernel
theorem d_MO_found_41 : decode b_MO_found 41 = .ok (.istore_n 3, 1) := by decide +kernel
theorem d_MO_found_42 : decode b_MO_found 42 = .ok (.iload_n 2, 1) := by decide +kernel
theorem d_MO_found_43 : decode b_MO_found 43 = .ok (.sipush 256, 3) := by decide +kernel
theorem d_MO_found_46 : decode b_MO_found 46 = .ok (.if_icmp .ne 13, 3) := by decide +kernel
theorem d_MO_found_49 : decode b_MO_found 49 = .ok (.aload_n 0, 1) := by decide +kernel
theorem d_MO_found_50 : decode b_MO_found 50 = .ok (.getfield 13, 3) := by decide +kernel
theorem d_MO_found_53 : decode b_MO_found 53 = .ok (.invokestatic 67, 3) := by decide +kernel
theorem d_MO_found_56 : decode b_MO_found 56 = .ok (.goto 4, 3) := by decide +kernel
theorem d_MO_found_59 : decode b_MO_found 59 = .ok (.iload_n 2, 1) := by decide +kernel
theorem d_MO_found_60 : decode b_MO_found 60 = .ok (.istore 4, 2) := by decide +kernel
theorem d_MO_found_62 : decode b_MO_found 62 = .ok (.iload_n 3, 1) := by decide +kernel
theorem d_MO_found_63 : decode b_MO_found 63 = .ok (.ifCond .lt 8, 3) := by decide +kernel
theorem d_MO_found_66 : decode b_MO_found 66 = .ok (.iload 4, 2) := by decide +kernel
theorem d_MO_found_68 : decode b_MO_found 68 = .ok (.ifCond .ge 5, 3) := by decide +kernel
theorem d_MO_found_71 : decode b_MO_found 71 = .ok (.iconst (-1), 1) := by decide +kernel
theorem d_MO_found_72 : decode b_MO_found 72 = .ok (.ireturn, 1) := by decide +kernel
theorem d_MO_found_73 : decode b_MO_found 73 = .ok (.aload_n 0, 1) := by decide +kernel
theorem d_MO_found_74 : decode b_MO_found 74 = .ok (.getfield 13, 3) := by decide +kernel
theorem d_MO_found_77 : decode b_MO_found 77 = .ok (.bipush 6, 2) := by decide +kernel
theorem d_MO_found_79 : decode b_MO_found 79 = .ok (.iload_n 3, 1) := by decide +kernel
theorem d_MO_found_80 : decode b_MO_found 80 = .ok (.iconst 0, 1) := by decide +kernel
theorem d_MO_found_81 : decode b_MO_found 81 = .ok (.invokestatic 43, 3) := by decide +kernel
theorem d_MO_found_84 : decode b_MO_found 84 = .ok (.sipush 128, 3) := by decide +kernel
theorem d_MO_found_87 : decode b_MO_found 87 = .ok (.if_icmp .le 14, 3) := by decide +kernel
theorem d_MO_found_90 : decode b_MO_found 90 = .ok (.aload_n 0, 1) := by decide +kernel
theorem d_MO_found_91 : decode b_MO_found 91 = .ok (.getfield 13, 3) := by decide +kernel
theorem d_MO_found_94 : decode b_MO_found 94 = .ok (.iload_n 3, 1) := by decide +kernel
theorem d_MO_found_95 : decode b_MO_found 95 = .ok (.invokestatic 47, 3) := by decide +kernel
theorem d_MO_found_98 : decode b_MO_found 98 = .ok (.goto 4, 3) := by decide +kernel
theorem d_MO_found_101 : decode b_MO_found 101 = .ok (.iload_n 3, 1) := by decide +kernel
theorem d_MO_found_102 : decode b_MO_found 102 = .ok (.istore_n 3, 1) := by decide +kernel
theorem d_MO_found_103 : decode b_MO_found 103 = .ok (.aload_n 0, 1) := by decide +kernel
theorem d_MO_found_104 : decode b_MO_found 104 = .ok (.getfield 13, 3) := by decide +kernel
theorem d_MO_found_107 : decode b_MO_found 107 = .ok (.bipush 6, 2) := by decide +kernel
theorem d_MO_found_109 : decode b_MO_found 109 = .ok (.iload_n 3, 1) := by decide +kernel
theorem d_MO_found_110 : decode b_MO_found 110 = .ok (.iconst 0, 1) := by decide +kernel
theorem d_MO_found_111 : decode b_MO_found 111 = .ok (.invokestatic 43, 3) := by decide +kernel
theorem d_MO_found_114 : decode b_MO_found 114 = .ok (.sipush 128, 3) := by decide +kernel
theorem d_MO_found_117 : decode b_MO_found 117 = .ok (.if_icmp .gt 59, 3) := by decide +kernel
theorem d_MO_found_120 : decode b_MO_found 120 = .ok (.aload_n 0, 1) := by decide +kernel
theorem d_MO_found_121 : decode b_MO_found 121 = .ok (.getfield 13, 3) := by decide +kernel
theorem d_MO_found_124 : decode b_MO_found 124 = .ok (.bipush 6, 2) := by decide +kernel
theorem d_MO_found_126 : decode b_MO_found 126 = .ok (.iload_n 3, 1) := by decide +kernel
theorem d_MO_found_127 : decode b_MO_found 127 = .ok (.iconst 1, 1) := by decide +kernel
theorem d_MO_found_128 : decode b_MO_found 128 = .ok (.invokestatic 43, 3) := by decide +kernel
theorem d_MO_found_131 : decode b_MO_found 131 = .ok (.iload 4, 2) := by decide +kernel
theorem d_MO_found_133 : decode b_MO_found 133 = .ok (.if_icmp .ne 5, 3) := by decide +kernel
theorem d_MO_found_136 : decode b_MO_found 136 = .ok (.iload_n 3, 1) := by decide +kernel
theorem d_MO_found_137 : decode b_MO_found 137 = .ok (.ireturn, 1) := by decide +kernel
theorem d_MO_found_138 : decode b_MO_found 138 = .ok (.aload_n 0, 1) := by decide +kernel
theorem d_MO_found_139 : decode b_MO_found 139 = .ok (.getfield 13, 3) := by decide +kernel
theorem d_MO_found_142 : decode b_MO_found 142 = .ok (.bipush 6, 2) := by decide +kernel
theorem d_MO_found_144 : decode b_MO_found 144 = .ok (.iload_n 3, 1) := by decide +kernel
theorem d_MO_found_145 : decode b_MO_found 145 = .ok (.iconst 0, 1) := by decide +kernel
theorem d_MO_found_146 : decode b_MO_found 146 = .ok (.invokestatic 43, 3) := by decide +kernel
theorem d_MO_found_149 : decode b_MO_found 149 = .ok (.sipush 128, 3) := by decide +kernel
theorem d_MO_found_152 : decode b_MO_found 152 = .ok (.if_icmp .ne 5, 3) := by decide +kernel
theorem d_MO_found_155 : decode b_MO_found 155 = .ok (.iconst (-1), 1) := by decide +kernel
theorem d_MO_found_156 : decode b_MO_found 156 = .ok (.ireturn, 1) := by decide +kernel
theorem d_MO_found_157 : decode b_MO_found 157 = .ok (.iload_n 3, 1) := by decide +kernel
theorem d_MO_found_158 : decode b_MO_found 158 = .ok (.aload_n 0, 1) := by decide +kernel
theorem d_MO_found_159 : decode b_MO_found 159 = .ok (.getfield 13, 3) := by decide +kernel
theorem d_MO_found_162 : decode b_MO_found 162 = .ok (.bipush 6, 2) := by decide +kernel
theorem d_MO_found_164 : decode b_MO_found 164 = .ok (.iload_n 3, 1) := by decide +kernel
theorem d_MO_found_165 : decode b_MO_found 165 = .ok (.iconst 0, 1) := by decide +kernel
theorem d_MO_found_166 : decode b_MO_found 166 = .ok (.invokestatic 43, 3) := by decide +kernel
theorem d_MO_found_169 : decode b_MO_found 169 = .ok (.iadd, 1) := by decide +kernel
theorem d_MO_found_170 : decode b_MO_found 170 = .ok (.iconst 1, 1) := by decide +kernel
theorem d_MO_found_171 : decode b_MO_found 171 = .ok (.iadd, 1) := by decide +kernel
theorem d_MO_found_172 : decode b_MO_found 172 = .ok (.istore_n 3, 1) := by decide +kernel
theorem d_MO_found_173 : decode b_MO_found 173 = .ok (.goto (-70), 3) := by decide +kernel
theorem d_MO_found_176 : decode b_MO_found 176 = .ok (.iconst (-1), 1) := by decide +kernel
theorem d_MO_found_177 : decode b_MO_found 177 = .ok (.ireturn, 1) := by decide +kernel
set_option maxHeartbeats 4000000 in
set_option maxRecDepth 100000 in
theorem c_MO_found (l : Launch) (dC : Nat → ClassId) (dI : Nat → Nat → Nat) (h : Nat) (th : Int32) (fa : Nat) (n0 : Int32) (ga : Nat) (ld : Int32) (sz : Int32) (ra : Nat) (rz : Int32) (ka : Nat) (wa : Nat) (ct : Int32) (cB : ClassId) (g : Nat → Int32) (x : Nat) (r : Nat) (hV : fm_V (fm_RB g)) (hxx : x = 256 ∨ fm_th (fm_RB g) x = true) (hrr : r ≤ 256) : fm_M l (dC, dI) y_MO_found w_MO_found ({ frames := 6, cells := 0, slots := 0, locals := 130 }) [.ref h, .int (nI (x)), .int (nI (r))] [(h, .inr (4, [.int (th), .ref fa, .int (n0), .ref ga, .int (ld), .int (sz), .ref ra, .int (rz), .ref ka, .ref wa, .int (ct)])), (ga, .inl (cB, 8192, .inl (g)))] [(cB, .byte)] ((fm_oI (fm_fd (fm_RB g) x r))) := by
  refine Met.ofW (cc := b_MO_found) (maxL := 5) (ret := (some .int)) (by decide) rfl ?_
  intro pg ev s m args below meth cd s₁ BD hml hv
  obtain ⟨rfl, hP, hK⟩ := hv
  have hx := BD.exec
  have hb := BD.bytes
  have hr := BD.returns
  have hts := atoms_spec (ws := w_MO_found) BD.pre
  have ht : ∀ w ∈ fm_T, w.before _ s = true := fun w h => hts w (List.mem_cons_of_mem _ h)
  have hown : s.vm.findClass R_MO = some m.cls := findClass_of_methodNamed BD.named
  have hlocks := BD.notSynchronized
  have S : CallFix pg m cd b_MO_found 5 s _ w_MO_found R_MO := ⟨hx, hb, hml, hown, hts⟩
  have hl := lv_entry ([.ref h, .int (nI (x)), .int (nI (r))]) (n := 5) (Nat.le_of_ble_eq_true rfl)
  rw [lg_entry_eq]
  generalize (lg_sl ([.ref h, .int (nI (x)), .int (nI (r))]) ++ List.replicate (5 - (lg_sl ([.ref h, .int (nI (x)), .int (nI (r))])).length) Slot.unset).toArray = ls at hl ⊢
  have hl : lv_has ls 5 [(0, .ref h), (1, .int (nI (x))), (2, .int (nI (r)))] := hl
  have hL := hV.1
  obtain ⟨-, hq, h3, h10⟩ := id hL
  have hx256 : x ≤ 256 := by
    rcases hxx with e | e
    · omega
    · have e2 := fm_th_in e
      omega
  refine fm_join (nL := 5) (q := 62) (LV := [(0, .ref h), (3, .int (fm_oI (fm_so (fm_RB g) x))), (4, .int (fm_oI (fm_no (fm_RB g) r)))]) ?_ ?_
  · intro ls hl
    have hl : lv_has ls 5 [(0, .ref h), (3, .int (fm_oI (fm_so (fm_RB g) x))), (4, .int (fm_oI (fm_no (fm_RB g) r)))] := hl
    refine lv_iload_n hx hb d_MO_found_62 rfl (lv_at hl 1 rfl) ?_
    refine lv_if_lt (tgt := 71) hx hb d_MO_found_63 (by decide) (fun c0 => ?_) (fun c0 => ?_)
    · have c_63 := c0
      have hno := fm_oI_lt (fm_so_lt (fm_RB_lt g) (by omega)) c_63
      refine lv_iconst (v := ((-1))) hx hb d_MO_found_71 (by decide) ?_
      exact W.iret hx hb hr (fun t ht hW => ⟨_, rfl, by first | (rw [fm_fd, hno]; rfl) | (rw [fm_fd, hk, hno2]; rfl), ht⟩) (fun q hq => by cases hq) d_MO_found_72
    · have c_63 := c0
      obtain ⟨k, hk⟩ := fm_oI_ge c_63
      have hkw := fm_V_so hV hxx hk
      have hin := fm_pin hL (by decide : 6 < 10) hkw
      have hl : lv_has ls 5 [(0, .ref h), (3, .int (nI (k))), (4, .int (fm_oI (fm_no (fm_RB g) r)))] := by rw [show ((fm_oI (fm_so (fm_RB g) x)) : Int32) = nI (k) from by rw [hk]; rfl] at hl; exact hl
      refine lv_iload hx hb d_MO_found_66 (lv_at hl 2 rfl) ?_
      refine lv_if_ge (tgt := 73) hx hb d_MO_found_68 (by decide) (fun c0 => ?_) (fun c0 => ?_)
      · have c_68 := c0
        obtain ⟨nx, hnx⟩ := fm_oI_ge (Int32.not_lt.mpr c_68)
        have hnx2 := fm_no_lt (fm_RB_lt g) hrr hnx
        have hl : lv_has ls 5 [(0, .ref h), (3, .int (nI (k))), (4, .int (nI (nx)))] := by rw [show ((fm_oI (fm_no (fm_RB g) r)) : Int32) = nI (nx) from by rw [hnx]; rfl] at hl; exact hl
        refine lv_aload_n hx hb d_MO_found_73 rfl (lv_at hl 0 rfl) ?_
        refine va_get (D := (dC, dI)) (ci := 4) (v := .ref ga) (C := R_MO) (T := F_MO) (N := 11) hx hb ht i_MO hown hK hP 0 rfl rfl 3 (by decide) (ht _ q_3_116) (fun _ h9 => h9) rfl d_MO_found_74 ?_
        refine lv_bipush (v := nI (6)) hx hb d_MO_found_77 (by decide) ?_
        refine lv_iload_n hx hb d_MO_found_79 rfl (lv_at hl 1 rfl) ?_
        refine lv_iconst (v := nI (0)) hx hb d_MO_found_80 (by decide) ?_
        refine fm_cs S (c_MO_at l dC dI ga cB g 6 k 0 (by omega) (hq) (by omega) (by omega)) rfl rfl k_MO_at q_3_184 ⟨Nat.le_of_ble_eq_true rfl, Nat.le_of_ble_eq_true rfl⟩ (hP.sub [1] rfl) (hK.sub [0] rfl) rfl hl.1 rfl (Nat.le_of_ble_eq_true rfl) ⟨Nat.zero_le _, Nat.zero_le _⟩ d_MO_found_81 ?_
        have f0_81 := fm_AT_lt (fm_RB_lt g) 6 k 0
        refine lv_sipush (v := nI (128)) hx hb d_MO_found_84 (by decide) ?_
        refine lv_icmp_le (tgt := 101) hx hb d_MO_found_87 (by decide) (fun c0 => ?_) (fun c0 => ?_)
        · have c_87 : fm_AT (fm_RB g) 6 k 0 ≤ 128 := (nI_leI (a := fm_AT (fm_RB g) 6 k 0) (b := 128) (by omega) (by omega)).mp c0
          refine lv_iload_n hx hb d_MO_found_101 rfl (lv_at hl 1 rfl) ?_
          refine fm_tw (z := nI (fm_at0 (fm_RB g) k)) (by first | (rw [fm_at0, if_pos (Nat.lt_of_not_le c_87)]; done) | (rw [fm_at0, if_neg (Nat.not_lt.mpr c_87)]; done)) ?_
          refine lv_istore_n (lv' := [(3, .int (nI (fm_at0 (fm_RB g) k))), (0, .ref h), (4, .int (nI (nx)))]) hx hb d_MO_found_102 rfl hl (by decide) rfl (fun ls hl => ?_)
          refine fm_loop1 (LV := fun (q : Nat) => [(0, .ref h), (3, .int (nI (q))), (4, .int (nI (nx)))]) (I := fun (q : Nat) => q < fm_WD (fm_RB g) 6 ∧ fm_seek (fm_RB g) nx (fm_WD (fm_RB g) 6 - q) q = fm_fd (fm_RB g) x r) (μ := fun (q : Nat) => fm_WD (fm_RB g) 6 - q) ?_ (fm_at0 (fm_RB g) k) (⟨fm_V_at0 hV hkw, by rw [fm_fd, hk, hnx]⟩) ls (lv_sub hl [1, 0, 2] rfl)
          intro q hI_103 ih_103 ls hl
          have hl : lv_has ls 5 [(0, .ref h), (3, .int (nI (q))), (4, .int (nI (nx)))] := hl
          obtain ⟨hqw, hsk⟩ := hI_103
          have hin2 := fm_pin hL (by decide : 6 < 10) hqw
          have hw6 := fm_WD_le (fm_RB_lt g) 6
          rw [fm_seek_s hV hqw] at hsk
          refine lv_aload_n hx hb d_MO_found_103 rfl (lv_at hl 0 rfl) ?_
          refine va_get (D := (dC, dI)) (ci := 4) (v := .ref ga) (C := R_MO) (T := F_MO) (N := 11) hx hb ht i_MO hown hK hP 0 rfl rfl 3 (by decide) (ht _ q_3_116) (fun _ h9 => h9) rfl d_MO_found_104 ?_
          refine lv_bipush (v := nI (6)) hx hb d_MO_found_107 (by decide) ?_
          refine lv_iload_n hx hb d_MO_found_109 rfl (lv_at hl 1 rfl) ?_
          refine lv_iconst (v := nI (0)) hx hb d_MO_found_110 (by decide) ?_
          refine fm_cs S (c_MO_at l dC dI ga cB g 6 q 0 (by omega) (hq) (by omega) (by omega)) rfl rfl k_MO_at q_3_184 ⟨Nat.le_of_ble_eq_true rfl, Nat.le_of_ble_eq_true rfl⟩ (hP.sub [1] rfl) (hK.sub [0] rfl) rfl hl.1 rfl (Nat.le_of_ble_eq_true rfl) ⟨Nat.zero_le _, Nat.zero_le _⟩ d_MO_found_111 ?_
          have f0_111 := fm_AT_lt (fm_RB_lt g) 6 q 0
          refine lv_sipush (v := nI (128)) hx hb d_MO_found_114 (by decide) ?_
          refine lv_icmp_gt (tgt := 176) hx hb d_MO_found_117 (by decide) (fun c0 => ?_) (fun c0 => ?_)
          · have c_117 : 128 < fm_AT (fm_RB g) 6 q 0 := (nI_ltI (a := 128) (b := fm_AT (fm_RB g) 6 q 0) (by omega) (by omega)).mp c0
            refine lv_iconst (v := ((-1))) hx hb d_MO_found_176 (by decide) ?_
            exact W.iret hx hb hr (fun t ht hW => ⟨_, rfl, by rw [← hsk, if_pos (by omega)]; rfl, ht⟩) (fun q hq => by cases hq) d_MO_found_177
          · have c_117 : ¬ (128 < fm_AT (fm_RB g) 6 q 0) := fun z => c0 ((nI_ltI (a := 128) (b := fm_AT (fm_RB g) 6 q 0) (by omega) (by omega)).mpr z)
            refine lv_aload_n hx hb d_MO_found_120 rfl (lv_at hl 0 rfl) ?_
            refine va_get (D := (dC, dI)) (ci := 4) (v := .ref ga) (C := R_MO) (T := F_MO) (N := 11) hx hb ht i_MO hown hK hP 0 rfl rfl 3 (by decide) (ht _ q_3_116) (fun _ h9 => h9) rfl d_MO_found_121 ?_
            refine lv_bipush (v := nI (6)) hx hb d_MO_found_124 (by decide) ?_
            refine lv_iload_n hx hb d_MO_found_126 rfl (lv_at hl 1 rfl) ?_
            refine lv_iconst (v := nI (1)) hx hb d_MO_found_127 (by decide) ?_
            refine fm_cs S (c_MO_at l dC dI ga cB g 6 q 1 (by omega) (hq) (by omega) (by omega)) rfl rfl k_MO_at q_3_184 ⟨Nat.le_of_ble_eq_true rfl, Nat.le_of_ble_eq_true rfl⟩ (hP.sub [1] rfl) (hK.sub [0] rfl) rfl hl.1 rfl (Nat.le_of_ble_eq_true rfl) ⟨Nat.zero_le _, Nat.zero_le _⟩ d_MO_found_128 ?_
            have f0_128 := fm_AT_lt (fm_RB_lt g) 6 q 1
            refine lv_iload hx hb d_MO_found_131 (lv_at hl 2 rfl) ?_
            refine lv_icmp_ne (tgt := 138) hx hb d_MO_found_133 (by decide) (fun c0 => ?_) (fun c0 => ?_)
            · have c_133 : ¬ (fm_AT (fm_RB g) 6 q 1 = nx) := fun z => c0 ((nI_eq (a := fm_AT (fm_RB g) 6 q 1) (b := nx) (by omega) (by omega)).mpr z)
              refine lv_aload_n hx hb d_MO_found_138 rfl (lv_at hl 0 rfl) ?_
              refine va_get (D := (dC, dI)) (ci := 4) (v := .ref ga) (C := R_MO) (T := F_MO) (N := 11) hx hb ht i_MO hown hK hP 0 rfl rfl 3 (by decide) (ht _ q_3_116) (fun _ h9 => h9) rfl d_MO_found_139 ?_
              refine lv_bipush (v := nI (6)) hx hb d_MO_found_142 (by decide) ?_
              refine lv_iload_n hx hb d_MO_found_144 rfl (lv_at hl 1 rfl) ?_
              refine lv_iconst (v := nI (0)) hx hb d_MO_found_145 (by decide) ?_
              refine fm_cs S (c_MO_at l dC dI ga cB g 6 q 0 (by omega) (hq) (by omega) (by omega)) rfl rfl k_MO_at q_3_184 ⟨Nat.le_of_ble_eq_true rfl, Nat.le_of_ble_eq_true rfl⟩ (hP.sub [1] rfl) (hK.sub [0] rfl) rfl hl.1 rfl (Nat.le_of_ble_eq_true rfl) ⟨Nat.zero_le _, Nat.zero_le _⟩ d_MO_found_146 ?_
              have f0_146 := fm_AT_lt (fm_RB_lt g) 6 q 0
              refine lv_sipush (v := nI (128)) hx hb d_MO_found_149 (by decide) ?_
              refine lv_icmp_ne (tgt := 157) hx hb d_MO_found_152 (by decide) (fun c0 => ?_) (fun c0 => ?_)
              · have c_152 : ¬ (fm_AT (fm_RB g) 6 q 0 = 128) := fun z => c0 ((nI_eq (a := fm_AT (fm_RB g) 6 q 0) (b := 128) (by omega) (by omega)).mpr z)
                refine lv_iload_n hx hb d_MO_found_157 rfl (lv_at hl 1 rfl) ?_
                refine lv_aload_n hx hb d_MO_found_158 rfl (lv_at hl 0 rfl) ?_
                refine va_get (D := (dC, dI)) (ci := 4) (v := .ref ga) (C := R_MO) (T := F_MO) (N := 11) hx hb ht i_MO hown hK hP 0 rfl rfl 3 (by decide) (ht _ q_3_116) (fun _ h9 => h9) rfl d_MO_found_159 ?_
                refine lv_bipush (v := nI (6)) hx hb d_MO_found_162 (by decide) ?_
                refine lv_iload_n hx hb d_MO_found_164 rfl (lv_at hl 1 rfl) ?_
                refine lv_iconst (v := nI (0)) hx hb d_MO_found_165 (by decide) ?_
                refine fm_cs S (c_MO_at l dC dI ga cB g 6 q 0 (by omega) (hq) (by omega) (by omega)) rfl rfl k_MO_at q_3_184 ⟨Nat.le_of_ble_eq_true rfl, Nat.le_of_ble_eq_true rfl⟩ (hP.sub [1] rfl) (hK.sub [0] rfl) rfl hl.1 rfl (Nat.le_of_ble_eq_true rfl) ⟨Nat.zero_le _, Nat.zero_le _⟩ d_MO_found_166 ?_
                have f0_166 := fm_AT_lt (fm_RB_lt g) 6 q 0
                refine lv_iadd hx hb d_MO_found_169 ?_
                refine fm_tw (z := nI (q + fm_AT (fm_RB g) 6 q 0)) (nI_add _ _) ?_
                refine lv_iconst (v := nI (1)) hx hb d_MO_found_170 (by decide) ?_
                refine lv_iadd hx hb d_MO_found_171 ?_
                refine fm_tw (z := nI (q + fm_AT (fm_RB g) 6 q 0 + 1)) (nI_add _ _) ?_
                refine lv_istore_n (lv' := [(3, .int (nI (q + fm_AT (fm_RB g) 6 q 0 + 1))), (0, .ref h), (4, .int (nI (nx)))]) hx hb d_MO_found_172 rfl hl (by decide) rfl (fun ls hl => ?_)
                refine lv_goto (tgt := 103) hx hb d_MO_found_173 (by decide) ?_
                exact ih_103 (q + fm_AT (fm_RB g) 6 q 0 + 1) ls (⟨fm_V_next hV hqw (by omega), by rw [if_neg (by omega), if_neg c_133, if_neg c_152] at hsk; exact hsk⟩) (by omega) (lv_sub hl [1, 0, 2] rfl)
              · have c_152 : fm_AT (fm_RB g) 6 q 0 = 128 := (nI_eq (a := fm_AT (fm_RB g) 6 q 0) (b := 128) (by omega) (by omega)).mp c0
                refine lv_iconst (v := ((-1))) hx hb d_MO_found_155 (by decide) ?_
                exact W.iret hx hb hr (fun t ht hW => ⟨_, rfl, by rw [← hsk, if_neg (by omega), if_neg c_133, if_pos c_152]; rfl, ht⟩) (fun q hq => by cases hq) d_MO_found_156
            · have c_133 : fm_AT (fm_RB g) 6 q 1 = nx := (nI_eq (a := fm_AT (fm_RB g) 6 q 1) (b := nx) (by omega) (by omega)).mp c0
              refine lv_iload_n hx hb d_MO_found_136 rfl (lv_at hl 1 rfl) ?_
              exact W.iret hx hb hr (fun t ht hW => ⟨_, rfl, by rw [← hsk, if_neg (by omega), if_pos c_133]; rfl, ht⟩) (fun q hq => by cases hq) d_MO_found_137
        · have c_87 : ¬ (fm_AT (fm_RB g) 6 k 0 ≤ 128) := fun z => c0 ((nI_leI (a := fm_AT (fm_RB g) 6 k 0) (b := 128) (by omega) (by omega)).mpr z)
          refine lv_aload_n hx hb d_MO_found_90 rfl (lv_at hl 0 rfl) ?_
          refine va_get (D := (dC, dI)) (ci := 4) (v := .ref ga) (C := R_MO) (T := F_MO) (N := 11) hx hb ht i_MO hown hK hP 0 rfl rfl 3 (by decide) (ht _ q_3_116) (fun _ h9 => h9) rfl d_MO_found_91 ?_
          refine lv_iload_n hx hb d_MO_found_94 rfl (lv_at hl 1 rfl) ?_
          refine fm_cs S (c_MO_far l dC dI ga cB g k (hq) (by omega)) rfl rfl k_MO_far q_3_218 ⟨Nat.le_of_ble_eq_true rfl, Nat.le_of_ble_eq_true rfl⟩ (hP.sub [1] rfl) (hK.sub [0] rfl) rfl hl.1 rfl (Nat.le_of_ble_eq_true rfl) ⟨Nat.zero_le _, Nat.zero_le _⟩ d_MO_found_95 ?_
          have f0_95 := fm_FAR_lt (fm_RB_lt g) k
          refine lv_goto (tgt := 102) hx hb d_MO_found_98 (by decide) ?_
          refine fm_tw (z := nI (fm_at0 (fm_RB g) k)) (by first | (rw [fm_at0, if_pos (Nat.lt_of_not_le c_87)]; done) | (rw [fm_at0, if_neg (Nat.not_lt.mpr c_87)]; done)) ?_
          refine lv_istore_n (lv' := [(3, .int (nI (fm_at0 (fm_RB g) k))), (0, .ref h), (4, .int (nI (nx)))]) hx hb d_MO_found_102 rfl hl (by decide) rfl (fun ls hl => ?_)
          refine fm_loop1 (LV := fun (q : Nat) => [(0, .ref h), (3, .int (nI (q))), (4, .int (nI (nx)))]) (I := fun (q : Nat) => q < fm_WD (fm_RB g) 6 ∧ fm_seek (fm_RB g) nx (fm_WD (fm_RB g) 6 - q) q = fm_fd (fm_RB g) x r) (μ := fun (q : Nat) => fm_WD (fm_RB g) 6 - q) ?_ (fm_at0 (fm_RB g) k) (⟨fm_V_at0 hV hkw, by rw [fm_fd, hk, hnx]⟩) ls (lv_sub hl [1, 0, 2] rfl)
          intro q hI_103 ih_103 ls hl
          have hl : lv_has ls 5 [(0, .ref h), (3, .int (nI (q))), (4, .int (nI (nx)))] := hl
          obtain ⟨hqw, hsk⟩ := hI_103
          have hin2 := fm_pin hL (by decide : 6 < 10) hqw
          have hw6 := fm_WD_le (fm_RB_lt g) 6
          rw [fm_seek_s hV hqw] at hsk
          refine lv_aload_n hx hb d_MO_found_103 rfl (lv_at hl 0 rfl) ?_
          refine va_get (D := (dC, dI)) (ci := 4) (v := .ref ga) (C := R_MO) (T := F_MO) (N := 11) hx hb ht i_MO hown hK hP 0 rfl rfl 3 (by decide) (ht _ q_3_116) (fun _ h9 => h9) rfl d_MO_found_104 ?_
          refine lv_bipush (v := nI (6)) hx hb d_MO_found_107 (by decide) ?_
          refine lv_iload_n hx hb d_MO_found_109 rfl (lv_at hl 1 rfl) ?_
          refine lv_iconst (v := nI (0)) hx hb d_MO_found_110 (by decide) ?_
          refine fm_cs S (c_MO_at l dC dI ga cB g 6 q 0 (by omega) (hq) (by omega) (by omega)) rfl rfl k_MO_at q_3_184 ⟨Nat.le_of_ble_eq_true rfl, Nat.le_of_ble_eq_true rfl⟩ (hP.sub [1] rfl) (hK.sub [0] rfl) rfl hl.1 rfl (Nat.le_of_ble_eq_true rfl) ⟨Nat.zero_le _, Nat.zero_le _⟩ d_MO_found_111 ?_
          have f0_111 := fm_AT_lt (fm_RB_lt g) 6 q 0
          refine lv_sipush (v := nI (128)) hx hb d_MO_found_114 (by decide) ?_
          refine lv_icmp_gt (tgt := 176) hx hb d_MO_found_117 (by decide) (fun c0 => ?_) (fun c0 => ?_)
          · have c_117 : 128 < fm_AT (fm_RB g) 6 q 0 := (nI_ltI (a := 128) (b := fm_AT (fm_RB g) 6 q 0) (by omega) (by omega)).mp c0
            refine lv_iconst (v := ((-1))) hx hb d_MO_found_176 (by decide) ?_
            exact W.iret hx hb hr (fun t ht hW => ⟨_, rfl, by rw [← hsk, if_pos (by omega)]; rfl, ht⟩) (fun q hq => by cases hq) d_MO_found_177
          · have c_117 : ¬ (128 < fm_AT (fm_RB g) 6 q 0) := fun z => c0 ((nI_ltI (a := 128) (b := fm_AT (fm_RB g) 6 q 0) (by omega) (by omega)).mpr z)
            refine lv_aload_n hx hb d_MO_found_120 rfl (lv_at hl 0 rfl) ?_
            refine va_get (D := (dC, dI)) (ci := 4) (v := .ref ga) (C := R_MO) (T := F_MO) (N := 11) hx hb ht i_MO hown hK hP 0 rfl rfl 3 (by decide) (ht _ q_3_116) (fun _ h9 => h9) rfl d_MO_found_121 ?_
            refine lv_bipush (v := nI (6)) hx hb d_MO_found_124 (by decide) ?_
            refine lv_iload_n hx hb d_MO_found_126 rfl (lv_at hl 1 rfl) ?_
            refine lv_iconst (v := nI (1)) hx hb d_MO_found_127 (by decide) ?_
            refine fm_cs S (c_MO_at l dC dI ga cB g 6 q 1 (by omega) (hq) (by omega) (by omega)) rfl rfl k_MO_at q_3_184 ⟨Nat.le_of_ble_eq_true rfl, Nat.le_of_ble_eq_true rfl⟩ (hP.sub [1] rfl) (hK.sub [0] rfl) rfl hl.1 rfl (Nat.le_of_ble_eq_true rfl) ⟨Nat.zero_le _, Nat.zero_le _⟩ d_MO_found_128 ?_
            have f0_128 := fm_AT_lt (fm_RB_lt g) 6 q 1
            refine lv_iload hx hb d_MO_found_131 (lv_at hl 2 rfl) ?_
            refine lv_icmp_ne (tgt := 138) hx hb d_MO_found_133 (by decide) (fun c0 => ?_) (fun c0 => ?_)
            · have c_133 : ¬ (fm_AT (fm_RB g) 6 q 1 = nx) := fun z => c0 ((nI_eq (a := fm_AT (fm_RB g) 6 q 1) (b := nx) (by omega) (by omega)).mpr z)
              refine lv_aload_n hx hb d_MO_found_138 rfl (lv_at hl 0 rfl) ?_
              refine va_get (D := (dC, dI)) (ci := 4) (v := .ref ga) (C := R_MO) (T := F_MO) (N := 11) hx hb ht i_MO hown hK hP 0 rfl rfl 3 (by decide) (ht _ q_3_116) (fun _ h9 => h9) rfl d_MO_found_139 ?_
              refine lv_bipush (v := nI (6)) hx hb d_MO_found_142 (by decide) ?_
              refine lv_iload_n hx hb d_MO_found_144 rfl (lv_at hl 1 rfl) ?_
              refine lv_iconst (v := nI (0)) hx hb d_MO_found_145 (by decide) ?_
              refine fm_cs S (c_MO_at l dC dI ga cB g 6 q 0 (by omega) (hq) (by omega) (by omega)) rfl rfl k_MO_at q_3_184 ⟨Nat.le_of_ble_eq_true rfl, Nat.le_of_ble_eq_true rfl⟩ (hP.sub [1] rfl) (hK.sub [0] rfl) rfl hl.1 rfl (Nat.le_of_ble_eq_true rfl) ⟨Nat.zero_le _, Nat.zero_le _⟩ d_MO_found_146 ?_
              have f0_146 := fm_AT_lt (fm_RB_lt g) 6 q 0
              refine lv_sipush (v := nI (128)) hx hb d_MO_found_149 (by decide) ?_
              refine lv_icmp_ne (tgt := 157) hx hb d_MO_found_152 (by decide) (fun c0 => ?_) (fun c0 => ?_)
              · have c_152 : ¬ (fm_AT (fm_RB g) 6 q 0 = 128) := fun z => c0 ((nI_eq (a := fm_AT (fm_RB g) 6 q 0) (b := 128) (by omega) (by omega)).mpr z)
                refine lv_iload_n hx hb d_MO_found_157 rfl (lv_at hl 1 rfl) ?_
                refine lv_aload_n hx hb d_MO_found_158 rfl (lv_at hl 0 rfl) ?_
                refine va_get (D := (dC, dI)) (ci := 4) (v := .ref ga) (C := R_MO) (T := F_MO) (N := 11) hx hb ht i_MO hown hK hP 0 rfl rfl 3 (by decide) (ht _ q_3_116) (fun _ h9 => h9) rfl d_MO_found_159 ?_
                refine lv_bipush (v := nI (6)) hx hb d_MO_found_162 (by decide) ?_
                refine lv_iload_n hx hb d_MO_found_164 rfl (lv_at hl 1 rfl) ?_
                refine lv_iconst (v := nI (0)) hx hb d_MO_found_165 (by decide) ?_
                refine fm_cs S (c_MO_at l dC dI ga cB g 6 q 0 (by omega) (hq) (by omega) (by omega)) rfl rfl k_MO_at q_3_184 ⟨Nat.le_of_ble_eq_true rfl, Nat.le_of_ble_eq_true rfl⟩ (hP.sub [1] rfl) (hK.sub [0] rfl) rfl hl.1 rfl (Nat.le_of_ble_eq_true rfl) ⟨Nat.zero_le _, Nat.zero_le _⟩ d_MO_found_166 ?_
                have f0_166 := fm_AT_lt (fm_RB_lt g) 6 q 0
                refine lv_iadd hx hb d_MO_found_169 ?_
                refine fm_tw (z := nI (q + fm_AT (fm_RB g) 6 q 0)) (nI_add _ _) ?_
                refine lv_iconst (v := nI (1)) hx hb d_MO_found_170 (by decide) ?_
                refine lv_iadd hx hb d_MO_found_171 ?_
                refine fm_tw (z := nI (q + fm_AT (fm_RB g) 6 q 0 + 1)) (nI_add _ _) ?_
                refine lv_istore_n (lv' := [(3, .int (nI (q + fm_AT (fm_RB g) 6 q 0 + 1))), (0, .ref h), (4, .int (nI (nx)))]) hx hb d_MO_found_172 rfl hl (by decide) rfl (fun ls hl => ?_)
                refine lv_goto (tgt := 103) hx hb d_MO_found_173 (by decide) ?_
                exact ih_103 (q + fm_AT (fm_RB g) 6 q 0 + 1) ls (⟨fm_V_next hV hqw (by omega), by rw [if_neg (by omega), if_neg c_133, if_neg c_152] at hsk; exact hsk⟩) (by omega) (lv_sub hl [1, 0, 2] rfl)
              · have c_152 : fm_AT (fm_RB g) 6 q 0 = 128 := (nI_eq (a := fm_AT (fm_RB g) 6 q 0) (b := 128) (by omega) (by omega)).mp c0
                refine lv_iconst (v := ((-1))) hx hb d_MO_found_155 (by decide) ?_
                exact W.iret hx hb hr (fun t ht hW => ⟨_, rfl, by rw [← hsk, if_neg (by omega), if_neg c_133, if_pos c_152]; rfl, ht⟩) (fun q hq => by cases hq) d_MO_found_156
            · have c_133 : fm_AT (fm_RB g) 6 q 1 = nx := (nI_eq (a := fm_AT (fm_RB g) 6 q 1) (b := nx) (by omega) (by omega)).mp c0
              refine lv_iload_n hx hb d_MO_found_136 rfl (lv_at hl 1 rfl) ?_
              exact W.iret hx hb hr (fun t ht hW => ⟨_, rfl, by rw [← hsk, if_neg (by omega), if_pos c_133]; rfl, ht⟩) (fun q hq => by cases hq) d_MO_found_137
      · have c_68 := c0
        have hno2 := fm_oI_lt (fm_no_lt (fm_RB_lt g) hrr) (Int32.not_le.mp c_68)
        refine lv_iconst (v := ((-1))) hx hb d_MO_found_71 (by decide) ?_
        exact W.iret hx hb hr (fun t ht hW => ⟨_, rfl, by first | (rw [fm_fd, hno]; rfl) | (rw [fm_fd, hk, hno2]; rfl), ht⟩) (fun q hq => by cases hq) d_MO_found_72
  intro jn_62
  refine lv_iload_n hx hb d_MO_found_0 rfl (lv_at hl 1 rfl) ?_
  refine lv_sipush (v := nI (256)) hx hb d_MO_found_1 (by decide) ?_
  refine lv_icmp_ne (tgt := 17) hx hb d_MO_found_4 (by decide) (fun c0 => ?_) (fun c0 => ?_)
  · have c_4 : ¬ (x = 256) := fun z => c0 ((nI_eq (a := x) (b := 256) (by omega) (by omega)).mpr z)
    obtain ⟨hx1, hx2, -⟩ := fm_th_in (hxx.resolve_left c_4)
    refine lv_aload_n hx hb d_MO_found_17 rfl (lv_at hl 0 rfl) ?_
    refine va_get (D := (dC, dI)) (ci := 4) (v := .ref ga) (C := R_MO) (T := F_MO) (N := 11) hx hb ht i_MO hown hK hP 0 rfl rfl 3 (by decide) (ht _ q_3_116) (fun _ h9 => h9) rfl d_MO_found_18 ?_
    refine lv_iload_n hx hb d_MO_found_21 rfl (lv_at hl 1 rfl) ?_
    refine fm_cs S (c_MO_tag l dC dI ga cB g x (hL) (hx1) (hx2)) rfl rfl k_MO_tag q_3_197 ⟨Nat.le_of_ble_eq_true rfl, Nat.le_of_ble_eq_true rfl⟩ (hP.sub [1] rfl) (hK.sub [0] rfl) rfl hl.1 rfl (Nat.le_of_ble_eq_true rfl) ⟨Nat.zero_le _, Nat.zero_le _⟩ d_MO_found_22 ?_
    have f0_22 := fm_tag_lt (fm_RB g) x
    refine lv_iconst (v := nI (1)) hx hb d_MO_found_25 (by decide) ?_
    refine lv_icmp_ne (tgt := 40) hx hb d_MO_found_26 (by decide) (fun c0 => ?_) (fun c0 => ?_)
    · have c_26 : ¬ (fm_tag (fm_RB g) x = 1) := fun z => c0 ((nI_eq (a := fm_tag (fm_RB g) x) (b := 1) (by omega) (by omega)).mpr z)
      refine lv_iconst (v := ((-1))) hx hb d_MO_found_40 (by decide) ?_
      refine fm_tw (z := (fm_oI (fm_so (fm_RB g) x))) (by first | (rw [fm_so, if_pos c_4, fm_ep_o]; done) | (rw [fm_so, if_neg c_4, if_pos c_26]; rfl) | (rw [fm_so, if_neg c_4, if_neg c_26]; rfl)) ?_
      refine lv_istore_n (lv' := [(3, .int (fm_oI (fm_so (fm_RB g) x))), (0, .ref h), (1, .int (nI (x))), (2, .int (nI (r)))]) hx hb d_MO_found_41 rfl hl (by decide) rfl (fun ls hl => ?_)
      refine lv_iload_n hx hb d_MO_found_42 rfl (lv_at hl 3 rfl) ?_
      refine lv_sipush (v := nI (256)) hx hb d_MO_found_43 (by decide) ?_
      refine lv_icmp_ne (tgt := 59) hx hb d_MO_found_46 (by decide) (fun c0 => ?_) (fun c0 => ?_)
      · have c_46 : ¬ (r = 256) := fun z => c0 ((nI_eq (a := r) (b := 256) (by omega) (by omega)).mpr z)
        refine lv_iload_n hx hb d_MO_found_59 rfl (lv_at hl 3 rfl) ?_
        refine fm_tw (z := (fm_oI (fm_no (fm_RB g) r))) (by first | (rw [fm_no, if_pos c_46, fm_eg_o]; done) | (rw [fm_no, if_neg c_46]; rfl)) ?_
        refine lv_istore (lv' := [(4, .int (fm_oI (fm_no (fm_RB g) r))), (3, .int (fm_oI (fm_so (fm_RB g) x))), (0, .ref h), (1, .int (nI (x))), (2, .int (nI (r)))]) hx hb d_MO_found_60 hl (by decide) rfl (fun ls hl => ?_)
        exact jn_62 ls (lv_sub hl [2, 1, 0] rfl)
      · have c_46 : r = 256 := (nI_eq (a := r) (b := 256) (by omega) (by omega)).mp c0
        refine lv_aload_n hx hb d_MO_found_49 rfl (lv_at hl 1 rfl) ?_
        refine va_get (D := (dC, dI)) (ci := 4) (v := .ref ga) (C := R_MO) (T := F_MO) (N := 11) hx hb ht i_MO hown hK hP 0 rfl rfl 3 (by decide) (ht _ q_3_116) (fun _ h9 => h9) rfl d_MO_found_50 ?_
        refine fm_cs S (c_MO_edgeOf l dC dI ga cB g (hL)) rfl rfl k_MO_edgeOf q_3_221 ⟨Nat.le_of_ble_eq_true rfl, Nat.le_of_ble_eq_true rfl⟩ (hP.sub [1] rfl) (hK.sub [0] rfl) rfl hl.1 rfl (Nat.le_of_ble_eq_true rfl) ⟨Nat.zero_le _, Nat.zero_le _⟩ d_MO_found_53 ?_
        refine lv_goto (tgt := 60) hx hb d_MO_found_56 (by decide) ?_
        refine fm_tw (z := (fm_oI (fm_no (fm_RB g) r))) (by first | (rw [fm_no, if_pos c_46, fm_eg_o]; done) | (rw [fm_no, if_neg c_46]; rfl)) ?_
        refine lv_istore (lv' := [(4, .int (fm_oI (fm_no (fm_RB g) r))), (3, .int (fm_oI (fm_so (fm_RB g) x))), (0, .ref h), (1, .int (nI (x))), (2, .int (nI (r)))]) hx hb d_MO_found_60 hl (by decide) rfl (fun ls hl => ?_)
        exact jn_62 ls (lv_sub hl [2, 1, 0] rfl)
    · have c_26 : fm_tag (fm_RB g) x = 1 := (nI_eq (a := fm_tag (fm_RB g) x) (b := 1) (by omega) (by omega)).mp c0
      refine lv_aload_n hx hb d_MO_found_29 rfl (lv_at hl 0 rfl) ?_
      refine va_get (D := (dC, dI)) (ci := 4) (v := .ref ga) (C := R_MO) (T := F_MO) (N := 11) hx hb ht i_MO hown hK hP 0 rfl rfl 3 (by decide) (ht _ q_3_116) (fun _ h9 => h9) rfl d_MO_found_30 ?_
      refine lv_iload_n hx hb d_MO_found_33 rfl (lv_at hl 1 rfl) ?_
      refine fm_cs S (c_MO_rest l dC dI ga cB g x (hL) (hx1) (hx2)) rfl rfl k_MO_rest q_3_200 ⟨Nat.le_of_ble_eq_true rfl, Nat.le_of_ble_eq_true rfl⟩ (hP.sub [1] rfl) (hK.sub [0] rfl) rfl hl.1 rfl (Nat.le_of_ble_eq_true rfl) ⟨Nat.zero_le _, Nat.zero_le _⟩ d_MO_found_34 ?_
      have f0_34 := fm_rest_lt (fm_RB_lt g) x
      refine lv_goto (tgt := 41) hx hb d_MO_found_37 (by decide) ?_
      refine fm_tw (z := (fm_oI (fm_so (fm_RB g) x))) (by first | (rw [fm_so, if_pos c_4, fm_ep_o]; done) | (rw [fm_so, if_neg c_4, if_pos c_26]; rfl) | (rw [fm_so, if_neg c_4, if_neg c_26]; rfl)) ?_
      refine lv_istore_n (lv' := [(3, .int (fm_oI (fm_so (fm_RB g) x))), (0, .ref h), (1, .int (nI (x))), (2, .int (nI (r)))]) hx hb d_MO_found_41 rfl hl (by decide) rfl (fun ls hl => ?_)
      refine lv_iload_n hx hb d_MO_found_42 rfl (lv_at hl 3 rfl) ?_
      refine lv_sipush (v := nI (256)) hx hb d_MO_found_43 (by decide) ?_
      refine lv_icmp_ne (tgt := 59) hx hb d_MO_found_46 (by decide) (fun c0 => ?_) (fun c0 => ?_)
      · have c_46 : ¬ (r = 256) := fun z => c0 ((nI_eq (a := r) (b := 256) (by omega) (by omega)).mpr z)
        refine lv_iload_n hx hb d_MO_found_59 rfl (lv_at hl 3 rfl) ?_
        refine fm_tw (z := (fm_oI (fm_no (fm_RB g) r))) (by first | (rw [fm_no, if_pos c_46, fm_eg_o]; done) | (rw [fm_no, if_neg c_46]; rfl)) ?_
        refine lv_istore (lv' := [(4, .int (fm_oI (fm_no (fm_RB g) r))), (3, .int (fm_oI (fm_so (fm_RB g) x))), (0, .ref h), (1, .int (nI (x))), (2, .int (nI (r)))]) hx hb d_MO_found_60 hl (by decide) rfl (fun ls hl => ?_)
        exact jn_62 ls (lv_sub hl [2, 1, 0] rfl)
      · have c_46 : r = 256 := (nI_eq (a := r) (b := 256) (by omega) (by omega)).mp c0
        refine lv_aload_n hx hb d_MO_found_49 rfl (lv_at hl 1 rfl) ?_
        refine va_get (D := (dC, dI)) (ci := 4) (v := .ref ga) (C := R_MO) (T := F_MO) (N := 11) hx hb ht i_MO hown hK hP 0 rfl rfl 3 (by decide) (ht _ q_3_116) (fun _ h9 => h9) rfl d_MO_found_50 ?_
        refine fm_cs S (c_MO_edgeOf l dC dI ga cB g (hL)) rfl rfl k_MO_edgeOf q_3_221 ⟨Nat.le_of_ble_eq_true rfl, Nat.le_of_ble_eq_true rfl⟩ (hP.sub [1] rfl) (hK.sub [0] rfl) rfl hl.1 rfl (Nat.le_of_ble_eq_true rfl) ⟨Nat.zero_le _, Nat.zero_le _⟩ d_MO_found_53 ?_
        refine lv_goto (tgt := 60) hx hb d_MO_found_56 (by decide) ?_
        refine fm_tw (z := (fm_oI (fm_no (fm_RB g) r))) (by first | (rw [fm_no, if_pos c_46, fm_eg_o]; done) | (rw [fm_no, if_neg c_46]; rfl)) ?_
        refine lv_istore (lv' := [(4, .int (fm_oI (fm_no (fm_RB g) r))), (3, .int (fm_oI (fm_so (fm_RB g) x))), (0, .ref h), (1, .int (nI (x))), (2, .int (nI (r)))]) hx hb d_MO_found_60 hl (by decide) rfl (fun ls hl => ?_)
        exact jn_62 ls (lv_sub hl [2, 1, 0] rfl)
  · have c_4 : x = 256 := (nI_eq (a := x) (b := 256) (by omega) (by omega)).mp c0
    refine lv_aload_n hx hb d_MO_found_7 rfl (lv_at hl 0 rfl) ?_
    refine va_get (D := (dC, dI)) (ci := 4) (v := .ref ga) (C := R_MO) (T := F_MO) (N := 11) hx hb ht i_MO hown hK hP 0 rfl rfl 3 (by decide) (ht _ q_3_116) (fun _ h9 => h9) rfl d_MO_found_8 ?_
    refine fm_cs S (c_MO_edgeProgram l dC dI ga cB g (hL)) rfl rfl k_MO_edgeProgram q_3_231 ⟨Nat.le_of_ble_eq_true rfl, Nat.le_of_ble_eq_true rfl⟩ (hP.sub [1] rfl) (hK.sub [0] rfl) rfl hl.1 rfl (Nat.le_of_ble_eq_true rfl) ⟨Nat.zero_le _, Nat.zero_le _⟩ d_MO_found_11 ?_
    refine lv_goto (tgt := 41) hx hb d_MO_found_14 (by decide) ?_
    refine fm_tw (z := (fm_oI (fm_so (fm_RB g) x))) (by first | (rw [fm_so, if_pos c_4, fm_ep_o]; done) | (rw [fm_so, if_neg c_4, if_pos c_26]; rfl) | (rw [fm_so, if_neg c_4, if_neg c_26]; rfl)) ?_
    refine lv_istore_n (lv' := [(3, .int (fm_oI (fm_so (fm_RB g) x))), (0, .ref h), (1, .int (nI (x))), (2, .int (nI (r)))]) hx hb d_MO_found_41 rfl hl (by decide) rfl (fun ls hl => ?_)
    refine lv_iload_n hx hb d_MO_found_42 rfl (lv_at hl 3 rfl) ?_
    refine lv_sipush (v := nI (256)) hx hb d_MO_found_43 (by decide) ?_
    refine lv_icmp_ne (tgt := 59) hx hb d_MO_found_46 (by decide) (fun c0 => ?_) (fun c0 => ?_)
    · have c_46 : ¬ (r = 256) := fun z => c0 ((nI_eq (a := r) (b := 256) (by omega) (by omega)).mpr z)
      refine lv_iload_n hx hb d_MO_found_59 rfl (lv_at hl 3 rfl) ?_
      refine fm_tw (z := (fm_oI (fm_no (fm_RB g) r))) (by first | (rw [fm_no, if_pos c_46, fm_eg_o]; done) | (rw [fm_no, if_neg c_46]; rfl)) ?_
      refine lv_istore (lv' := [(4, .int (fm_oI (fm_no (fm_RB g) r))), (3, .int (fm_oI (fm_so (fm_RB g) x))), (0, .ref h), (1, .int (nI (x))), (2, .int (nI (r)))]) hx hb d_MO_found_60 hl (by decide) rfl (fun ls hl => ?_)
      exact jn_62 ls (lv_sub hl [2, 1, 0] rfl)
    · have c_46 : r = 256 := (nI_eq (a := r) (b := 256) (by omega) (by omega)).mp c0
      refine lv_aload_n hx hb d_MO_found_49 rfl (lv_at hl 1 rfl) ?_
      refine va_get (D := (dC, dI)) (ci := 4) (v := .ref ga) (C := R_MO) (T := F_MO) (N := 11) hx hb ht i_MO hown hK hP 0 rfl rfl 3 (by decide) (ht _ q_3_116) (fun _ h9 => h9) rfl d_MO_found_50 ?_
      refine fm_cs S (c_MO_edgeOf l dC dI ga cB g (hL)) rfl rfl k_MO_edgeOf q_3_221 ⟨Nat.le_of_ble_eq_true rfl, Nat.le_of_ble_eq_true rfl⟩ (hP.sub [1] rfl) (hK.sub [0] rfl) rfl hl.1 rfl (Nat.le_of_ble_eq_true rfl) ⟨Nat.zero_le _, Nat.zero_le _⟩ d_MO_found_53 ?_
      refine lv_goto (tgt := 60) hx hb d_MO_found_56 (by decide) ?_
      refine fm_tw (z := (fm_oI (fm_no (fm_RB g) r))) (by first | (rw [fm_no, if_pos c_46, fm_eg_o]; done) | (rw [fm_no, if_neg c_46]; rfl)) ?_
      refine lv_istore (lv' := [(4, .int (fm_oI (fm_no (fm_RB g) r))), (3, .int (fm_oI (fm_so (fm_RB g) x))), (0, .ref h), (1, .int (nI (x))), (2, .int (nI (r)))]) hx hb d_MO_found_60 hl (by decide) rfl (fun ls hl => ?_)
      exact jn_62 ls (lv_sub hl [2, 1, 0] rfl)
theorem d_MO_fault_0 : decode b_MO_fault 0 = .ok (.aload_n 0, 1) := by decide +kernel
theorem d_MO_fault_1 : decode b_MO_fault 1 = .ok (.getfield 7, 3) := by decide +kernel
theorem d_MO_fault_4 : decode b_MO_fault 4 = .ok (.astore_n 1, 1) := by decide +kernel
theorem d_MO_fault_5 : decode b_MO_fault 5 = .ok (.aload_n 0, 1) := by decide +kernel
theorem d_MO_fault_6 : decode b_MO_fault 6 = .ok (.invokevirtual 74, 3) := by decide +kernel
theorem d_MO_fault_9 : decode b_MO_fault 9 = .ok (.ifCond .ne 5, 3) := by decide +kernel
theorem d_MO_fault_12 : decode b_MO_fault 12 = .ok (.iconst 1, 1) := by decide +kernel
theorem d_MO_fault_13 : decode b_MO_fault 13 = .ok (.ireturn, 1) := by decide +kernel
theorem d_MO_fault_14 : decode b_MO_fault 14 = .ok (.aload_n 1, 1) := by decide +kernel
theorem d_MO_fault_15 : decode b_MO_fault 15 = .ok (.iconst 2, 1) := by decide +kernel
theorem d_MO_fault_16 : decode b_MO_fault 16 = .ok (.invokestatic 33, 3) := by decide +kernel
theorem d_MO_fault_19 : decode b_MO_fault 19 = .ok (.aload_n 1, 1) := by decide +kernel
theorem d_MO_fault_20 : decode b_MO_fault 20 = .ok (.iconst 3, 1) := by decide +kernel
theorem d_MO_fault_21 : decode b_MO_fault 21 = .ok (.invokestatic 33, 3) := by decide +kernel
theorem d_MO_fault_24 : decode b_MO_fault 24 = .ok (.iconst 1, 1) := by decide +kernel
theorem d_MO_fault_25 : decode b_MO_fault 25 = .ok (.iadd, 1) := by decide +kernel
theorem d_MO_fault_26 : decode b_MO_fault 26 = .ok (.if_icmp .gt 14, 3) := by decide +kernel
theorem d_MO_fault_29 : decode b_MO_fault 29 = .ok (.aload_n 1, 1) := by decide +kernel
theorem d_MO_fault_30 : decode b_MO_fault 30 = .ok (.iconst 3, 1) := by decide +kernel
theorem d_MO_fault_31 : decode b_MO_fault 31 = .ok (.invokestatic 33, 3) := by decide +kernel
theorem d_MO_fault_34 : decode b_MO_fault 34 = .ok (.sipush 255, 3) := by decide +kernel
theorem d_MO_fault_37 : decode b_MO_fault 37 = .ok (.if_icmp .le 5, 3) := by decide +kernel
theorem d_MO_fault_40 : decode b_MO_fault 40 = .ok (.iconst 2, 1) := by decide +kernel
theorem d_MO_fault_41 : decode b_MO_fault 41 = .ok (.ireturn, 1) := by decide +kernel
theorem d_MO_fault_42 : decode b_MO_fault 42 = .ok (.aload_n 1, 1) := by decide +kernel
theorem d_MO_fault_43 : decode b_MO_fault 43 = .ok (.iconst 0, 1) := by decide +kernel
theorem d_MO_fault_44 : decode b_MO_fault 44 = .ok (.invokestatic 37, 3) := by decide +kernel
theorem d_MO_fault_47 : decode b_MO_fault 47 = .ok (.iconst 2, 1) := by decide +kernel
theorem d_MO_fault_48 : decode b_MO_fault 48 = .ok (.if_icmp .lt 15, 3) := by decide +kernel
theorem d_MO_fault_51 : decode b_MO_fault 51 = .ok (.aload_n 1, 1) := by decide +kernel
theorem d_MO_fault_52 : decode b_MO_fault 52 = .ok (.bipush 8, 2) := by decide +kernel
theorem d_MO_fault_54 : decode b_MO_fault 54 = .ok (.invokestatic 37, 3) := by decide +kernel
theorem d_MO_fault_57 : decode b_MO_fault 57 = .ok (.sipush 256, 3) := by decide +kernel
theorem d_MO_fault_60 : decode b_MO_fault 60 = .ok (.if_icmp .le 7, 3) := by decide +kernel
theorem d_MO_fault_63 : decode b_MO_fault 63 = .ok (.iconst 1, 1) := by decide +kernel
theorem d_MO_fault_64 : decode b_MO_fault 64 = .ok (.goto 4, 3) := by decide +kernel
theorem d_MO_fault_67 : decode b_MO_fault 67 = .ok (.iconst 0, 1) := by decide +kernel
theorem d_MO_fault_68 : decode b_MO_fault 68 = .ok (.istore_n 2, 1) := by decide +kernel
theorem d_MO_fault_69 : decode b_MO_fault 69 = .ok (.iconst 2, 1) := by decide +kernel
theorem d_MO_fault_70 : decode b_MO_fault 70 = .ok (.istore_n 3, 1) := by decide +kernel
theorem d_MO_fault_71 : decode b_MO_fault 71 = .ok (.iload_n 3, 1) := by decide +kernel
theorem d_MO_fault_72 : decode b_MO_fault 72 = .ok (.bipush 6, 2) := by decide +kernel
theorem d_MO_fault_74 : decode b_MO_fault 74 = .ok (.if_icmp .ge 27, 3) := by decide +kernel
theorem d_MO_fault_77 : decode b_MO_fault 77 = .ok (.iload_n 2, 1) := by decide +kernel
theorem d_MO_fault_78 : decode b_MO_fault 78 = .ok (.ifCond .ne 11, 3) := by decide +kernel
theorem d_MO_fault_81 : decode b_MO_fault 81 = .ok (.aload_n 1, 1) := by decide +kernel
theorem d_MO_fault_82 : decode b_MO_fault 82 = .ok (.iload_n 3, 1) := by decide +kernel
theorem d_MO_fault_83 : decode b_MO_fault 83 = .ok (.invokestatic 37, 3) := by decide +kernel
theorem d_MO_fault_86 : decode b_MO_fault 86 = .ok (.ifCond .ne 7, 3) := by decide +kernel
theorem d_MO_fault_89 : decode b_MO_fault 89 = .ok (.iconst 1, 1) := by decide +kernel
theorem d_MO_fault_90 : decode b_MO_fault 90 = .ok (.goto 4, 3) := by decide +kernel
theorem d_MO_fault_93 : decode b_MO_fault 93 = .ok (.iconst 0, 1) := by decide +kernel
theorem d_MO_fault_94 : decode b_MO_fault 94 = .ok (.istore_n 2, 1) := by decide +kernel
theorem d_MO_fault_95 : decode b_MO_fault 95 = .ok (.iinc 3 1, 3) := by decide +kernel
theorem d_MO_fault_98 : decode b_MO_fault 98 = .ok (.goto (-27), 3) := by decide +kernel
theorem d_MO_fault_101 : decode b_MO_fault 101 = .ok (.iload_n 2, 1) := by decide +kernel
theorem d_MO_fault_102 : decode b_MO_fault 102 = .ok (.ifCond .eq 5, 3) := by decide +kernel
theorem d_MO_fault_105 : decode b_MO_fault 105 = .ok (.iconst 3, 1) := by decide +kernel
theorem d_MO_fault_106 : decode b_MO_fault 106 = .ok (.ireturn, 1) := by decide +kernel
theorem d_MO_fault_107 : decode b_MO_fault 107 = .ok (.aload_n 1, 1) := by decide +kernel
theorem d_MO_fault_108 : decode b_MO_fault 108 = .ok (.iconst 0, 1) := by decide +kernel
theorem d_MO_fault_109 : decode b_MO_fault 109 = .ok (.invokestatic 33, 3) := by decide +kernel
theorem d_MO_fault_112 : decode b_MO_fault 112 = .ok (.aload_n 1, 1) := by decide +kernel
theorem d_MO_fault_113 : decode b_MO_fault 113 = .ok (.bipush 10, 2) := by decide +kernel
theorem d_MO_fault_115 : decode b_MO_fault 115 = .ok (.invokestatic 40, 3) := by decide +kernel
theorem d_MO_fault_118 : decode b_MO_fault 118 = .ok (.if_icmp .ne 17, 3) := by decide +kernel
theorem d_MO_fault_121 : decode b_MO_fault 121 = .ok (.aload_n 0, 1) := by decide +kernel
theorem d_MO_fault_122 : decode b_MO_fault 122 = .ok (.getfield 30, 3) := by decide +kernel
theorem d_MO_fault_125 : decode b_MO_fault 125 = .ok (.iconst 4, 1) := by decide +kernel
theorem d_MO_fault_126 : decode b_MO_fault 126 = .ok (.aload_n 1, 1) := by decide +kernel
theorem d_MO_fault_127 : decode b_MO_fault 127 = .ok (.iconst 0, 1) := by decide +kernel
theorem d_MO_fault_128 : decode b_MO_fault 128 = .ok (.invokestatic 33, 3) := by decide +kernel
theorem d_MO_fault_131 : decode b_MO_fault 131 = .ok (.imul, 1) := by decide +kernel
theorem d_MO_fault_132 : decode b_MO_fault 132 = .ok (.if_icmp .eq 5, 3) := by decide +kernel
theorem d_MO_fault_135 : decode b_MO_fault 135 = .ok (.iconst 4, 1) := by decide +kernel
theorem d_MO_fault_136 : decode b_MO_fault 136 = .ok (.ireturn, 1) := by decide +kernel
theorem d_MO_fault_137 : decode b_MO_fault 137 = .ok (.aload_n 1, 1) := by decide +kernel
theorem d_MO_fault_138 : decode b_MO_fault 138 = .ok (.invokestatic 78, 3) := by decide +kernel
theorem d_MO_fault_141 : decode b_MO_fault 141 = .ok (.ldc 81, 2) := by decide +kernel
theorem d_MO_fault_143 : decode b_MO_fault 143 = .ok (.if_icmp .ge 5, 3) := by decide +kernel
theorem d_MO_fault_146 : decode b_MO_fault 146 = .ok (.iconst 5, 1) := by decide +kernel
theorem d_MO_fault_147 : decode b_MO_fault 147 = .ok (.ireturn, 1) := by decide +kernel
theorem d_MO_fault_148 : decode b_MO_fault 148 = .ok (.aload_n 1, 1) := by decide +kernel
theorem d_MO_fault_149 : decode b_MO_fault 149 = .ok (.invokestatic 82, 3) := by decide +kernel
theorem d_MO_fault_152 : decode b_MO_fault 152 = .ok (.ifCond .ne 6, 3) := by decide +kernel
theorem d_MO_fault_155 : decode b_MO_fault 155 = .ok (.bipush 6, 2) := by decide +kernel
theorem d_MO_fault_157 : decode b_MO_fault 157 = .ok (.ireturn, 1) := by decide +kernel
theorem d_MO_fault_158 : decode b_MO_fault 158 = .ok (.aload_n 1, 1) := by decide +kernel
theorem d_MO_fault_159 : decode b_MO_fault 159 = .ok (.invokestatic 86, 3) := by decide +kernel
theorem d_MO_fault_162 : decode b_MO_fault 162 = .ok (.ifCond .ne 6, 3) := by decide +kernel
theorem d_MO_fault_165 : decode b_MO_fault 165 = .ok (.bipush 7, 2) := by decide +kernel
theorem d_MO_fault_167 : decode b_MO_fault 167 = .ok (.ireturn, 1) := by decide +kernel
theorem d_MO_fault_168 : decode b_MO_fault 168 = .ok (.aload_n 1, 1) := by decide +kernel
theorem d_MO_fault_169 : decode b_MO_fault 169 = .ok (.invokestatic 89, 3) := by decide +kernel
theorem d_MO_fault_172 : decode b_MO_fault 172 = .ok (.ifCond .ne 6, 3) := by decide +kernel
theorem d_MO_fault_175 : decode b_MO_fault 175 = .ok (.bipush 8, 2) := by decide +kernel
theorem d_MO_fault_177 : decode b_MO_fault 177 = .ok (.ireturn, 1) := by decide +kernel
theorem d_MO_fault_178 : decode b_MO_fault 178 = .ok (.aload_n 1, 1) := by decide +kernel
theorem d_MO_fault_179 : decode b_MO_fault 179 = .ok (.invokestatic 92, 3) := by decide +kernel
theorem d_MO_fault_182 : decode b_MO_fault 182 = .ok (.ifCond .ne 6, 3) := by decide +kernel
theorem d_MO_fault_185 : decode b_MO_fault 185 = .ok (.bipush 9, 2) := by decide +kernel
theorem d_MO_fault_187 : decode b_MO_fault 187 = .ok (.ireturn, 1) := by decide +kernel
theorem d_MO_fault_188 : decode b_MO_fault 188 = .ok (.aload_n 1, 1) := by decide +kernel
theorem d_MO_fault_189 : decode b_MO_fault 189 = .ok (.invokestatic 95, 3) := by decide +kernel
theorem d_MO_fault_192 : decode b_MO_fault 192 = .ok (.ifCond .ne 8, 3) := by decide +kernel
theorem d_MO_fault_195 : decode b_MO_fault 195 = .ok (.bipush 10, 2) := by decide +kernel
theorem d_MO_fault_197 : decode b_MO_fault 197 = .ok (.goto 19, 3) := by decide +kernel
theorem d_MO_fault_200 : decode b_MO_fault 200 = .ok (.aload_n 1, 1) := by decide +kernel
theorem d_MO_fault_201 : decode b_MO_fault 201 = .ok (.bipush 9, 2) := by decide +kernel
theorem d_MO_fault_203 : decode b_MO_fault 203 = .ok (.iconst 1, 1) := by decide +kernel
theorem d_MO_fault_204 : decode b_MO_fault 204 = .ok (.invokestatic 63, 3) := by decide +kernel
theorem d_MO_fault_207 : decode b_MO_fault 207 = .ok (.ifCond .eq 7, 3) := by decide +kernel
theorem d_MO_fault_210 : decode b_MO_fault 210 = .ok (.iconst 0, 1) := by decide +kernel
theorem d_MO_fault_211 : decode b_MO_fault 211 = .ok (.goto 5, 3) := by decide +kernel
theorem d_MO_fault_214 : decode b_MO_fault 214 = .ok (.bipush 11, 2) := by decide +kernel
theorem d_MO_fault_216 : decode b_MO_fault 216 = .ok (.ireturn, 1) := by decide +kernel
set_option maxHeartbeats 4000000 in
set_option maxRecDepth 100000 in
theorem c_MO_fault (l : Launch) (dC : Nat → ClassId) (dI : Nat → Nat → Nat) (h : Nat) (th : Int32) (fa : Nat) (n : Nat) (ga : Nat) (ld : Int32) (sz : Int32) (ra : Nat) (rz : Int32) (ka : Nat) (wa : Nat) (ct : Int32) (cB : ClassId) (f : Nat → Int32) (hn : n ≤ 8192) : fm_M l (dC, dI) y_MO_fault w_MO_fault ({ frames := 7, cells := 0, slots := 0, locals := 157 }) [.ref h] [(h, .inr (4, [.int (th), .ref fa, .int (nI (n)), .ref ga, .int (ld), .int (sz), .ref ra, .int (rz), .ref ka, .ref wa, .int (ct)])), (fa, .inl (cB, 8192, .inl (f)))] [(cB, .byte)] (nI (fm_fault (fm_RB f) n)) := by
  refine Met.ofW (cc := b_MO_fault) (maxL := 4) (ret := (some .int)) (by decide) rfl ?_
  intro pg ev s m args below meth cd s₁ BD hml hv
  obtain ⟨rfl, hP, hK⟩ := hv
  have hx := BD.exec
  have hb := BD.bytes
  have hr := BD.returns
  have hts := atoms_spec (ws := w_MO_fault) BD.pre
  have ht : ∀ w ∈ fm_T, w.before _ s = true := fun w h => hts w (List.mem_cons_of_mem _ h)
  have hown : s.vm.findClass R_MO = some m.cls := findClass_of_methodNamed BD.named
  have hlocks := BD.notSynchronized
  have S : CallFix pg m cd b_MO_fault 4 s _ w_MO_fault R_MO := ⟨hx, hb, hml, hown, hts⟩
  have hl := lv_entry ([.ref h]) (n := 4) (Nat.le_of_ble_eq_true rfl)
  rw [lg_entry_eq]
  generalize (lg_sl ([.ref h]) ++ List.replicate (4 - (lg_sl ([.ref h])).length) Slot.unset).toArray = ls at hl ⊢
  have hl : lv_has ls 4 [(0, .ref h)] := hl
  refine lv_aload_n hx hb d_MO_fault_0 rfl (lv_at hl 0 rfl) ?_
  refine va_get (D := (dC, dI)) (ci := 4) (v := .ref fa) (C := R_MO) (T := F_MO) (N := 11) hx hb ht i_MO hown hK hP 0 rfl rfl 1 (by decide) (ht _ q_3_114) (fun _ h9 => h9) rfl d_MO_fault_1 ?_
  refine lv_astore_n (lv' := [(1, .ref fa), (0, .ref h)]) hx hb d_MO_fault_4 rfl hl (by decide) rfl (fun ls hl => ?_)
  refine lv_aload_n hx hb d_MO_fault_5 rfl (lv_at hl 1 rfl) ?_
  refine fm_cv S (c_MO_areNumbersSmall l dC dI h th fa n ga ld sz ra rz ka wa ct cB f (by omega)) rfl rfl k_MO_areNumbersSmall q_3_168 ⟨Nat.le_of_ble_eq_true rfl, Nat.le_of_ble_eq_true rfl⟩ (hP.sub [0, 1] rfl) (hK.sub [0] rfl) 0 rfl rfl rfl hl.1 rfl (Nat.le_of_ble_eq_true rfl) ⟨Nat.zero_le _, Nat.zero_le _⟩ d_MO_fault_6 ?_
  refine lv_if_ne (tgt := 14) hx hb d_MO_fault_9 (by decide) (fun c0 => ?_) (fun c0 => ?_)
  · have c_9 : (fm_small (fm_RB f) n) = true := fm_bI_t c0
    refine lv_aload_n hx hb d_MO_fault_14 rfl (lv_at hl 0 rfl) ?_
    refine lv_iconst (v := nI (2)) hx hb d_MO_fault_15 (by decide) ?_
    refine fm_cs S (c_MO_half l dC dI fa cB f 2 (by omega)) rfl rfl k_MO_half q_3_172 ⟨Nat.le_of_ble_eq_true rfl, Nat.le_of_ble_eq_true rfl⟩ (hP.sub [1] rfl) (hK.sub [0] rfl) rfl hl.1 rfl (Nat.le_of_ble_eq_true rfl) ⟨Nat.zero_le _, Nat.zero_le _⟩ d_MO_fault_16 ?_
    have f0_16 := fm_HF_lt (fm_RB_lt f) 2
    refine lv_aload_n hx hb d_MO_fault_19 rfl (lv_at hl 0 rfl) ?_
    refine lv_iconst (v := nI (3)) hx hb d_MO_fault_20 (by decide) ?_
    refine fm_cs S (c_MO_half l dC dI fa cB f 3 (by omega)) rfl rfl k_MO_half q_3_172 ⟨Nat.le_of_ble_eq_true rfl, Nat.le_of_ble_eq_true rfl⟩ (hP.sub [1] rfl) (hK.sub [0] rfl) rfl hl.1 rfl (Nat.le_of_ble_eq_true rfl) ⟨Nat.zero_le _, Nat.zero_le _⟩ d_MO_fault_21 ?_
    have f0_21 := fm_HF_lt (fm_RB_lt f) 3
    refine lv_iconst (v := nI (1)) hx hb d_MO_fault_24 (by decide) ?_
    refine lv_iadd hx hb d_MO_fault_25 ?_
    refine fm_tw (z := nI (fm_HF (fm_RB f) 3 + 1)) (nI_add _ _) ?_
    refine lv_icmp_gt (tgt := 40) hx hb d_MO_fault_26 (by decide) (fun c0 => ?_) (fun c0 => ?_)
    · have c_26 : fm_HF (fm_RB f) 3 + 1 < fm_HF (fm_RB f) 2 := (nI_ltI (a := fm_HF (fm_RB f) 3 + 1) (b := fm_HF (fm_RB f) 2) (by omega) (by omega)).mp c0
      refine lv_iconst (v := nI (2)) hx hb d_MO_fault_40 (by decide) ?_
      exact W.iret hx hb hr (fun t ht hW => ⟨_, rfl, by rw [fm_fault, if_neg (by rw [c_9]; decide), if_pos (by omega)], ht⟩) (fun q hq => by cases hq) d_MO_fault_41
    · have c_26 : ¬ (fm_HF (fm_RB f) 3 + 1 < fm_HF (fm_RB f) 2) := fun z => c0 ((nI_ltI (a := fm_HF (fm_RB f) 3 + 1) (b := fm_HF (fm_RB f) 2) (by omega) (by omega)).mpr z)
      refine lv_aload_n hx hb d_MO_fault_29 rfl (lv_at hl 0 rfl) ?_
      refine lv_iconst (v := nI (3)) hx hb d_MO_fault_30 (by decide) ?_
      refine fm_cs S (c_MO_half l dC dI fa cB f 3 (by omega)) rfl rfl k_MO_half q_3_172 ⟨Nat.le_of_ble_eq_true rfl, Nat.le_of_ble_eq_true rfl⟩ (hP.sub [1] rfl) (hK.sub [0] rfl) rfl hl.1 rfl (Nat.le_of_ble_eq_true rfl) ⟨Nat.zero_le _, Nat.zero_le _⟩ d_MO_fault_31 ?_
      have f0_31 := fm_HF_lt (fm_RB_lt f) 3
      refine lv_sipush (v := nI (255)) hx hb d_MO_fault_34 (by decide) ?_
      refine lv_icmp_le (tgt := 42) hx hb d_MO_fault_37 (by decide) (fun c0 => ?_) (fun c0 => ?_)
      · have c_37 : fm_HF (fm_RB f) 3 ≤ 255 := (nI_leI (a := fm_HF (fm_RB f) 3) (b := 255) (by omega) (by omega)).mp c0
        refine fm_join (nL := 4) (q := 69) (LV := [(0, .ref h), (1, .ref fa), (2, .int (fm_bI ((decide (fm_WD (fm_RB f) 0 < 2) || decide (256 < fm_WD (fm_RB f) 8)) || !(fm_all 0 (fm_nz (fm_RB f))))))]) ?_ ?_
        · intro ls hl
          have hl : lv_has ls 4 [(0, .ref h), (1, .ref fa), (2, .int (fm_bI ((decide (fm_WD (fm_RB f) 0 < 2) || decide (256 < fm_WD (fm_RB f) 8)) || !(fm_all 0 (fm_nz (fm_RB f))))))] := hl
          refine lv_iconst (v := nI (2)) hx hb d_MO_fault_69 (by decide) ?_
          refine lv_istore_n (lv' := [(3, .int (nI (2))), (0, .ref h), (1, .ref fa), (2, .int (fm_bI ((decide (fm_WD (fm_RB f) 0 < 2) || decide (256 < fm_WD (fm_RB f) 8)) || !(fm_all 0 (fm_nz (fm_RB f))))))]) hx hb d_MO_fault_70 rfl hl (by decide) rfl (fun ls hl => ?_)
          refine fm_loop1 (LV := fun (j : Nat) => [(0, .ref h), (1, .ref fa), (2, .int (fm_bI ((decide (fm_WD (fm_RB f) 0 < 2) || decide (256 < fm_WD (fm_RB f) 8)) || !(fm_all j (fm_nz (fm_RB f)))))), (3, .int (nI (j + 2)))]) (I := fun (j : Nat) => j ≤ 4) (μ := fun (j : Nat) => 4 - j) ?_ 0 (by decide) ls (lv_sub hl [1, 2, 3, 0] rfl)
          intro j hI_71 ih_71 ls hl
          have hl : lv_has ls 4 [(0, .ref h), (1, .ref fa), (2, .int (fm_bI ((decide (fm_WD (fm_RB f) 0 < 2) || decide (256 < fm_WD (fm_RB f) 8)) || !(fm_all j (fm_nz (fm_RB f)))))), (3, .int (nI (j + 2)))] := hl
          refine lv_iload_n hx hb d_MO_fault_71 rfl (lv_at hl 3 rfl) ?_
          refine lv_bipush (v := nI (6)) hx hb d_MO_fault_72 (by decide) ?_
          refine lv_icmp_ge (tgt := 101) hx hb d_MO_fault_74 (by decide) (fun c0 => ?_) (fun c0 => ?_)
          · have c_74 : 6 ≤ j + 2 := (nI_leI (a := 6) (b := j + 2) (by omega) (by omega)).mp c0
            obtain rfl : j = 4 := by omega
            refine lv_iload_n hx hb d_MO_fault_101 rfl (lv_at hl 2 rfl) ?_
            refine lv_if_eq (tgt := 107) hx hb d_MO_fault_102 (by decide) (fun c0 => ?_) (fun c0 => ?_)
            · have c_102 : ((decide (fm_WD (fm_RB f) 0 < 2) || decide (256 < fm_WD (fm_RB f) 8)) || !(fm_all 4 (fm_nz (fm_RB f)))) = false := fm_bI_f c0
              have hfew : fm_few (fm_RB f) = false := c_102
              refine lv_aload_n hx hb d_MO_fault_107 rfl (lv_at hl 1 rfl) ?_
              refine lv_iconst (v := nI (0)) hx hb d_MO_fault_108 (by decide) ?_
              refine fm_cs S (c_MO_half l dC dI fa cB f 0 (by omega)) rfl rfl k_MO_half q_3_172 ⟨Nat.le_of_ble_eq_true rfl, Nat.le_of_ble_eq_true rfl⟩ (hP.sub [1] rfl) (hK.sub [0] rfl) rfl hl.1 rfl (Nat.le_of_ble_eq_true rfl) ⟨Nat.zero_le _, Nat.zero_le _⟩ d_MO_fault_109 ?_
              have f0_109 := fm_HF_lt (fm_RB_lt f) 0
              refine lv_aload_n hx hb d_MO_fault_112 rfl (lv_at hl 1 rfl) ?_
              refine lv_bipush (v := nI (10)) hx hb d_MO_fault_113 (by decide) ?_
              refine fm_cs S (c_MO_start l dC dI fa cB f 10 (by omega) (by omega)) rfl rfl k_MO_start q_3_178 ⟨Nat.le_of_ble_eq_true rfl, Nat.le_of_ble_eq_true rfl⟩ (hP.sub [1] rfl) (hK.sub [0] rfl) rfl hl.1 rfl (Nat.le_of_ble_eq_true rfl) ⟨Nat.zero_le _, Nat.zero_le _⟩ d_MO_fault_115 ?_
              have f0_115 := fm_ST_le (fm_RB_lt f) 10
              refine lv_icmp_ne (tgt := 135) hx hb d_MO_fault_118 (by decide) (fun c0 => ?_) (fun c0 => ?_)
              · have c_118 : ¬ (fm_HF (fm_RB f) 0 = fm_ST (fm_RB f) 10) := fun z => c0 ((nI_eq (a := fm_HF (fm_RB f) 0) (b := fm_ST (fm_RB f) 10) (by omega) (by omega)).mpr z)
                refine lv_iconst (v := nI (4)) hx hb d_MO_fault_135 (by decide) ?_
                exact W.iret hx hb hr (fun t ht hW => ⟨_, rfl, by rw [fm_fault, if_neg (by rw [c_9]; decide), if_neg (by omega), if_neg (by rw [hfew]; decide), if_pos (by omega)], ht⟩) (fun q hq => by cases hq) d_MO_fault_136
              · have c_118 : fm_HF (fm_RB f) 0 = fm_ST (fm_RB f) 10 := (nI_eq (a := fm_HF (fm_RB f) 0) (b := fm_ST (fm_RB f) 10) (by omega) (by omega)).mp c0
                refine lv_aload_n hx hb d_MO_fault_121 rfl (lv_at hl 0 rfl) ?_
                refine va_get (D := (dC, dI)) (ci := 4) (v := .int (nI (n))) (C := R_MO) (T := F_MO) (N := 11) hx hb ht i_MO hown hK hP 0 rfl rfl 2 (by decide) (ht _ q_3_115) (fun _ h9 => h9) rfl d_MO_fault_122 ?_
                refine lv_iconst (v := nI (4)) hx hb d_MO_fault_125 (by decide) ?_
                refine lv_aload_n hx hb d_MO_fault_126 rfl (lv_at hl 1 rfl) ?_
                refine lv_iconst (v := nI (0)) hx hb d_MO_fault_127 (by decide) ?_
                refine fm_cs S (c_MO_half l dC dI fa cB f 0 (by omega)) rfl rfl k_MO_half q_3_172 ⟨Nat.le_of_ble_eq_true rfl, Nat.le_of_ble_eq_true rfl⟩ (hP.sub [1] rfl) (hK.sub [0] rfl) rfl hl.1 rfl (Nat.le_of_ble_eq_true rfl) ⟨Nat.zero_le _, Nat.zero_le _⟩ d_MO_fault_128 ?_
                have f0_128 := fm_HF_lt (fm_RB_lt f) 0
                refine lv_imul hx hb d_MO_fault_131 ?_
                refine fm_tw (z := nI (4 * (fm_HF (fm_RB f) 0))) (pk_mul _ _) ?_
                refine lv_icmp_eq (tgt := 137) hx hb d_MO_fault_132 (by decide) (fun c0 => ?_) (fun c0 => ?_)
                · have c_132 : n = 4 * (fm_HF (fm_RB f) 0) := (nI_eq (a := n) (b := 4 * (fm_HF (fm_RB f) 0)) (by omega) (by omega)).mp c0
                  have hL : fm_Len (fm_RB f) := ⟨fm_RB_lt f, by omega, by omega, by omega⟩
                  have hne := fm_few_ne hfew
                  refine lv_aload_n hx hb d_MO_fault_137 rfl (lv_at hl 1 rfl) ?_
                  refine fm_cs S (c_MO_designOf l dC dI fa cB f (hL)) rfl rfl k_MO_designOf q_3_181 ⟨Nat.le_of_ble_eq_true rfl, Nat.le_of_ble_eq_true rfl⟩ (hP.sub [1] rfl) (hK.sub [0] rfl) rfl hl.1 rfl (Nat.le_of_ble_eq_true rfl) ⟨Nat.zero_le _, Nat.zero_le _⟩ d_MO_fault_138 ?_
                  refine lv_ldc (own := R_MO) (v := nI (1048576)) hx hb hown (ht _ q_3_187) d_MO_fault_141 ?_
                  refine lv_icmp_ge (tgt := 148) hx hb d_MO_fault_143 (by decide) (fun c0 => ?_) (fun c0 => ?_)
                  · have c_143 := c0
                    refine lv_aload_n hx hb d_MO_fault_148 rfl (lv_at hl 1 rfl) ?_
                    refine fm_cs S (c_MO_areSizesRight l dC dI fa cB f (hL)) rfl rfl k_MO_areSizesRight q_3_188 ⟨Nat.le_of_ble_eq_true rfl, Nat.le_of_ble_eq_true rfl⟩ (hP.sub [1] rfl) (hK.sub [0] rfl) rfl hl.1 rfl (Nat.le_of_ble_eq_true rfl) ⟨Nat.zero_le _, Nat.zero_le _⟩ d_MO_fault_149 ?_
                    refine lv_if_ne (tgt := 158) hx hb d_MO_fault_152 (by decide) (fun c0 => ?_) (fun c0 => ?_)
                    · have c_152 : (fm_all (fm_WD (fm_RB f) 1) (fm_size1 (fm_RB f))) = true := fm_bI_t c0
                      refine lv_aload_n hx hb d_MO_fault_158 rfl (lv_at hl 1 rfl) ?_
                      refine fm_cs S (c_MO_areTagsRight l dC dI fa cB f (hL)) rfl rfl k_MO_areTagsRight q_3_191 ⟨Nat.le_of_ble_eq_true rfl, Nat.le_of_ble_eq_true rfl⟩ (hP.sub [1] rfl) (hK.sub [0] rfl) rfl hl.1 rfl (Nat.le_of_ble_eq_true rfl) ⟨Nat.zero_le _, Nat.zero_le _⟩ d_MO_fault_159 ?_
                      refine lv_if_ne (tgt := 168) hx hb d_MO_fault_162 (by decide) (fun c0 => ?_) (fun c0 => ?_)
                      · have c_162 : (fm_all (fm_WD (fm_RB f) 1) (fun k => fm_tag1 (fm_RB f) (fm_HF (fm_RB f) 2 + k))) = true := fm_bI_t c0
                        refine lv_aload_n hx hb d_MO_fault_168 rfl (lv_at hl 1 rfl) ?_
                        refine fm_cs S (c_MO_areTablesRight l dC dI fa cB f (hL) (hne)) rfl rfl k_MO_areTablesRight q_3_206 ⟨Nat.le_of_ble_eq_true rfl, Nat.le_of_ble_eq_true rfl⟩ (hP.sub [1] rfl) (hK.sub [0] rfl) rfl hl.1 rfl (Nat.le_of_ble_eq_true rfl) ⟨Nat.zero_le _, Nat.zero_le _⟩ d_MO_fault_169 ?_
                        refine lv_if_ne (tgt := 178) hx hb d_MO_fault_172 (by decide) (fun c0 => ?_) (fun c0 => ?_)
                        · have c_172 : (fm_tables (fm_RB f)) = true := fm_bI_t c0
                          refine lv_aload_n hx hb d_MO_fault_178 rfl (lv_at hl 1 rfl) ?_
                          refine fm_cs S (c_MO_isProgramRight l dC dI fa cB f (hL)) rfl rfl k_MO_isProgramRight q_3_212 ⟨Nat.le_of_ble_eq_true rfl, Nat.le_of_ble_eq_true rfl⟩ (hP.sub [1] rfl) (hK.sub [0] rfl) rfl hl.1 rfl (Nat.le_of_ble_eq_true rfl) ⟨Nat.zero_le _, Nat.zero_le _⟩ d_MO_fault_179 ?_
                          refine lv_if_ne (tgt := 188) hx hb d_MO_fault_182 (by decide) (fun c0 => ?_) (fun c0 => ?_)
                          · have c_182 : (fm_all (fm_WD (fm_RB f) 6) (fm_word1 (fm_RB f))) = true := fm_bI_t c0
                            refine lv_aload_n hx hb d_MO_fault_188 rfl (lv_at hl 1 rfl) ?_
                            refine fm_cs S (c_MO_areRecipesRight l dC dI fa cB f (hL)) rfl rfl k_MO_areRecipesRight q_3_224 ⟨Nat.le_of_ble_eq_true rfl, Nat.le_of_ble_eq_true rfl⟩ (hP.sub [1] rfl) (hK.sub [0] rfl) rfl hl.1 rfl (Nat.le_of_ble_eq_true rfl) ⟨Nat.zero_le _, Nat.zero_le _⟩ d_MO_fault_189 ?_
                            refine lv_if_ne (tgt := 200) hx hb d_MO_fault_192 (by decide) (fun c0 => ?_) (fun c0 => ?_)
                            · have c_192 : (fm_all (fm_WD (fm_RB f) 8) (fm_recipe1 (fm_RB f))) = true := fm_bI_t c0
                              refine lv_aload_n hx hb d_MO_fault_200 rfl (lv_at hl 1 rfl) ?_
                              refine lv_bipush (v := nI (9)) hx hb d_MO_fault_201 (by decide) ?_
                              refine lv_iconst (v := nI (1)) hx hb d_MO_fault_203 (by decide) ?_
                              refine fm_cs S (c_MO_areFractions l dC dI fa cB f 9 1 (hL) (by omega) (by omega)) rfl rfl k_MO_areFractions q_3_209 ⟨Nat.le_of_ble_eq_true rfl, Nat.le_of_ble_eq_true rfl⟩ (hP.sub [1] rfl) (hK.sub [0] rfl) rfl hl.1 rfl (Nat.le_of_ble_eq_true rfl) ⟨Nat.zero_le _, Nat.zero_le _⟩ d_MO_fault_204 ?_
                              refine lv_if_eq (tgt := 214) hx hb d_MO_fault_207 (by decide) (fun c0 => ?_) (fun c0 => ?_)
                              · have c_207 : (fm_fracs (fm_RB f) 9 1) = false := fm_bI_f c0
                                refine lv_bipush (v := nI (11)) hx hb d_MO_fault_214 (by decide) ?_
                                exact W.iret hx hb hr (fun t ht hW => ⟨_, rfl, by rw [fm_fault, if_neg (by rw [c_9]; decide), if_neg (by omega), if_neg (by rw [hfew]; decide), if_neg (by omega), if_neg (Int32.not_lt.mpr c_143), if_neg (by rw [c_152]; decide), if_neg (by rw [c_162]; decide), if_neg (by rw [c_172]; decide), if_neg (by rw [c_182]; decide), if_neg (by rw [c_192]; decide), if_neg (by rw [c_207]; decide)], ht⟩) (fun q hq => by cases hq) d_MO_fault_216
                              · have c_207 : (fm_fracs (fm_RB f) 9 1) = true := fm_bI_t c0
                                refine lv_iconst (v := nI (0)) hx hb d_MO_fault_210 (by decide) ?_
                                refine lv_goto (tgt := 216) hx hb d_MO_fault_211 (by decide) ?_
                                exact W.iret hx hb hr (fun t ht hW => ⟨_, rfl, by rw [fm_fault, if_neg (by rw [c_9]; decide), if_neg (by omega), if_neg (by rw [hfew]; decide), if_neg (by omega), if_neg (Int32.not_lt.mpr c_143), if_neg (by rw [c_152]; decide), if_neg (by rw [c_162]; decide), if_neg (by rw [c_172]; decide), if_neg (by rw [c_182]; decide), if_neg (by rw [c_192]; decide), if_pos c_207], ht⟩) (fun q hq => by cases hq) d_MO_fault_216
                            · have c_192 : (fm_all (fm_WD (fm_RB f) 8) (fm_recipe1 (fm_RB f))) = false := fm_bI_f c0
                              refine lv_bipush (v := nI (10)) hx hb d_MO_fault_195 (by decide) ?_
                              refine lv_goto (tgt := 216) hx hb d_MO_fault_197 (by decide) ?_
                              exact W.iret hx hb hr (fun t ht hW => ⟨_, rfl, by rw [fm_fault, if_neg (by rw [c_9]; decide), if_neg (by omega), if_neg (by rw [hfew]; decide), if_neg (by omega), if_neg (Int32.not_lt.mpr c_143), if_neg (by rw [c_152]; decide), if_neg (by rw [c_162]; decide), if_neg (by rw [c_172]; decide), if_neg (by rw [c_182]; decide), if_pos c_192], ht⟩) (fun q hq => by cases hq) d_MO_fault_216
                          · have c_182 : (fm_all (fm_WD (fm_RB f) 6) (fm_word1 (fm_RB f))) = false := fm_bI_f c0
                            refine lv_bipush (v := nI (9)) hx hb d_MO_fault_185 (by decide) ?_
                            exact W.iret hx hb hr (fun t ht hW => ⟨_, rfl, by rw [fm_fault, if_neg (by rw [c_9]; decide), if_neg (by omega), if_neg (by rw [hfew]; decide), if_neg (by omega), if_neg (Int32.not_lt.mpr c_143), if_neg (by rw [c_152]; decide), if_neg (by rw [c_162]; decide), if_neg (by rw [c_172]; decide), if_pos c_182], ht⟩) (fun q hq => by cases hq) d_MO_fault_187
                        · have c_172 : (fm_tables (fm_RB f)) = false := fm_bI_f c0
                          refine lv_bipush (v := nI (8)) hx hb d_MO_fault_175 (by decide) ?_
                          exact W.iret hx hb hr (fun t ht hW => ⟨_, rfl, by rw [fm_fault, if_neg (by rw [c_9]; decide), if_neg (by omega), if_neg (by rw [hfew]; decide), if_neg (by omega), if_neg (Int32.not_lt.mpr c_143), if_neg (by rw [c_152]; decide), if_neg (by rw [c_162]; decide), if_pos c_172], ht⟩) (fun q hq => by cases hq) d_MO_fault_177
                      · have c_162 : (fm_all (fm_WD (fm_RB f) 1) (fun k => fm_tag1 (fm_RB f) (fm_HF (fm_RB f) 2 + k))) = false := fm_bI_f c0
                        refine lv_bipush (v := nI (7)) hx hb d_MO_fault_165 (by decide) ?_
                        exact W.iret hx hb hr (fun t ht hW => ⟨_, rfl, by rw [fm_fault, if_neg (by rw [c_9]; decide), if_neg (by omega), if_neg (by rw [hfew]; decide), if_neg (by omega), if_neg (Int32.not_lt.mpr c_143), if_neg (by rw [c_152]; decide), if_pos c_162], ht⟩) (fun q hq => by cases hq) d_MO_fault_167
                    · have c_152 : (fm_all (fm_WD (fm_RB f) 1) (fm_size1 (fm_RB f))) = false := fm_bI_f c0
                      refine lv_bipush (v := nI (6)) hx hb d_MO_fault_155 (by decide) ?_
                      exact W.iret hx hb hr (fun t ht hW => ⟨_, rfl, by rw [fm_fault, if_neg (by rw [c_9]; decide), if_neg (by omega), if_neg (by rw [hfew]; decide), if_neg (by omega), if_neg (Int32.not_lt.mpr c_143), if_pos c_152], ht⟩) (fun q hq => by cases hq) d_MO_fault_157
                  · have c_143 := c0
                    refine lv_iconst (v := nI (5)) hx hb d_MO_fault_146 (by decide) ?_
                    exact W.iret hx hb hr (fun t ht hW => ⟨_, rfl, by rw [fm_fault, if_neg (by rw [c_9]; decide), if_neg (by omega), if_neg (by rw [hfew]; decide), if_neg (by omega), if_pos (Int32.not_le.mp c_143)], ht⟩) (fun q hq => by cases hq) d_MO_fault_147
                · have c_132 : ¬ (n = 4 * (fm_HF (fm_RB f) 0)) := fun z => c0 ((nI_eq (a := n) (b := 4 * (fm_HF (fm_RB f) 0)) (by omega) (by omega)).mpr z)
                  refine lv_iconst (v := nI (4)) hx hb d_MO_fault_135 (by decide) ?_
                  exact W.iret hx hb hr (fun t ht hW => ⟨_, rfl, by rw [fm_fault, if_neg (by rw [c_9]; decide), if_neg (by omega), if_neg (by rw [hfew]; decide), if_pos (by omega)], ht⟩) (fun q hq => by cases hq) d_MO_fault_136
            · have c_102 : ((decide (fm_WD (fm_RB f) 0 < 2) || decide (256 < fm_WD (fm_RB f) 8)) || !(fm_all 4 (fm_nz (fm_RB f)))) = true := fm_bI_t c0
              have hfew : fm_few (fm_RB f) = true := c_102
              refine lv_iconst (v := nI (3)) hx hb d_MO_fault_105 (by decide) ?_
              exact W.iret hx hb hr (fun t ht hW => ⟨_, rfl, by rw [fm_fault, if_neg (by rw [c_9]; decide), if_neg (by omega), if_pos hfew], ht⟩) (fun q hq => by cases hq) d_MO_fault_106
          · have c_74 : ¬ (6 ≤ j + 2) := fun z => c0 ((nI_leI (a := 6) (b := j + 2) (by omega) (by omega)).mpr z)
            refine lv_iload_n hx hb d_MO_fault_77 rfl (lv_at hl 2 rfl) ?_
            refine lv_if_ne (tgt := 89) hx hb d_MO_fault_78 (by decide) (fun c0 => ?_) (fun c0 => ?_)
            · have c_78 : ((decide (fm_WD (fm_RB f) 0 < 2) || decide (256 < fm_WD (fm_RB f) 8)) || !(fm_all j (fm_nz (fm_RB f)))) = true := fm_bI_t c0
              refine lv_iconst (v := nI (1)) hx hb d_MO_fault_89 (by decide) ?_
              refine lv_goto (tgt := 94) hx hb d_MO_fault_90 (by decide) ?_
              refine fm_tw (z := (fm_bI ((decide (fm_WD (fm_RB f) 0 < 2) || decide (256 < fm_WD (fm_RB f) 8)) || !(fm_all (j + 1) (fm_nz (fm_RB f)))))) (by first | exact fm_fwT c_78 | exact fm_fwS c_78 (Or.inl ⟨rfl, decide_eq_false (fun z => z c_86)⟩) | exact fm_fwS c_78 (Or.inr ⟨rfl, decide_eq_true c_86⟩)) ?_
              refine lv_istore_n (lv' := [(2, .int (fm_bI ((decide (fm_WD (fm_RB f) 0 < 2) || decide (256 < fm_WD (fm_RB f) 8)) || !(fm_all (j + 1) (fm_nz (fm_RB f)))))), (0, .ref h), (1, .ref fa), (3, .int (nI (j + 2)))]) hx hb d_MO_fault_94 rfl hl (by decide) rfl (fun ls hl => ?_)
              refine lv_iinc (v := nI (j + 2 + 1)) (lv' := [(3, .int (nI (j + 2 + 1))), (2, .int (fm_bI ((decide (fm_WD (fm_RB f) 0 < 2) || decide (256 < fm_WD (fm_RB f) 8)) || !(fm_all (j + 1) (fm_nz (fm_RB f)))))), (0, .ref h), (1, .ref fa)]) hx hb d_MO_fault_95 hl (k := 3) rfl (nI_1 _) (by decide) rfl (fun ls hl => ?_)
              refine lv_goto (tgt := 71) hx hb d_MO_fault_98 (by decide) ?_
              exact ih_71 (j + 1) ls (by omega) (by omega) (lv_sub hl [2, 3, 1, 0] rfl)
            · have c_78 : ((decide (fm_WD (fm_RB f) 0 < 2) || decide (256 < fm_WD (fm_RB f) 8)) || !(fm_all j (fm_nz (fm_RB f)))) = false := fm_bI_f c0
              refine lv_aload_n hx hb d_MO_fault_81 rfl (lv_at hl 1 rfl) ?_
              refine lv_iload_n hx hb d_MO_fault_82 rfl (lv_at hl 3 rfl) ?_
              refine fm_cs S (c_MO_words l dC dI fa cB f (j + 2) (by omega) (fun z => by omega)) rfl rfl k_MO_words q_3_175 ⟨Nat.le_of_ble_eq_true rfl, Nat.le_of_ble_eq_true rfl⟩ (hP.sub [1] rfl) (hK.sub [0] rfl) rfl hl.1 rfl (Nat.le_of_ble_eq_true rfl) ⟨Nat.zero_le _, Nat.zero_le _⟩ d_MO_fault_83 ?_
              have f0_83 := fm_WD_le (fm_RB_lt f) (j + 2)
              refine lv_if_ne (tgt := 93) hx hb d_MO_fault_86 (by decide) (fun c0 => ?_) (fun c0 => ?_)
              · have c_86 : ¬ (fm_WD (fm_RB f) (j + 2) = 0) := fun z => c0 ((nI_eq (a := fm_WD (fm_RB f) (j + 2)) (b := 0) (by omega) (by omega)).mpr z)
                refine lv_iconst (v := nI (0)) hx hb d_MO_fault_93 (by decide) ?_
                refine fm_tw (z := (fm_bI ((decide (fm_WD (fm_RB f) 0 < 2) || decide (256 < fm_WD (fm_RB f) 8)) || !(fm_all (j + 1) (fm_nz (fm_RB f)))))) (by first | exact fm_fwT c_78 | exact fm_fwS c_78 (Or.inl ⟨rfl, decide_eq_false (fun z => z c_86)⟩) | exact fm_fwS c_78 (Or.inr ⟨rfl, decide_eq_true c_86⟩)) ?_
                refine lv_istore_n (lv' := [(2, .int (fm_bI ((decide (fm_WD (fm_RB f) 0 < 2) || decide (256 < fm_WD (fm_RB f) 8)) || !(fm_all (j + 1) (fm_nz (fm_RB f)))))), (0, .ref h), (1, .ref fa), (3, .int (nI (j + 2)))]) hx hb d_MO_fault_94 rfl hl (by decide) rfl (fun ls hl => ?_)
                refine lv_iinc (v := nI (j + 2 + 1)) (lv' := [(3, .int (nI (j + 2 + 1))), (2, .int (fm_bI ((decide (fm_WD (fm_RB f) 0 < 2) || decide (256 < fm_WD (fm_RB f) 8)) || !(fm_all (j + 1) (fm_nz (fm_RB f)))))), (0, .ref h), (1, .ref fa)]) hx hb d_MO_fault_95 hl (k := 3) rfl (nI_1 _) (by decide) rfl (fun ls hl => ?_)
                refine lv_goto (tgt := 71) hx hb d_MO_fault_98 (by decide) ?_
                exact ih_71 (j + 1) ls (by omega) (by omega) (lv_sub hl [2, 3, 1, 0] rfl)
              · have c_86 : fm_WD (fm_RB f) (j + 2) = 0 := (nI_eq (a := fm_WD (fm_RB f) (j + 2)) (b := 0) (by omega) (by omega)).mp c0
                refine lv_iconst (v := nI (1)) hx hb d_MO_fault_89 (by decide) ?_
                refine lv_goto (tgt := 94) hx hb d_MO_fault_90 (by decide) ?_
                refine fm_tw (z := (fm_bI ((decide (fm_WD (fm_RB f) 0 < 2) || decide (256 < fm_WD (fm_RB f) 8)) || !(fm_all (j + 1) (fm_nz (fm_RB f)))))) (by first | exact fm_fwT c_78 | exact fm_fwS c_78 (Or.inl ⟨rfl, decide_eq_false (fun z => z c_86)⟩) | exact fm_fwS c_78 (Or.inr ⟨rfl, decide_eq_true c_86⟩)) ?_
                refine lv_istore_n (lv' := [(2, .int (fm_bI ((decide (fm_WD (fm_RB f) 0 < 2) || decide (256 < fm_WD (fm_RB f) 8)) || !(fm_all (j + 1) (fm_nz (fm_RB f)))))), (0, .ref h), (1, .ref fa), (3, .int (nI (j + 2)))]) hx hb d_MO_fault_94 rfl hl (by decide) rfl (fun ls hl => ?_)
                refine lv_iinc (v := nI (j + 2 + 1)) (lv' := [(3, .int (nI (j + 2 + 1))), (2, .int (fm_bI ((decide (fm_WD (fm_RB f) 0 < 2) || decide (256 < fm_WD (fm_RB f) 8)) || !(fm_all (j + 1) (fm_nz (fm_RB f)))))), (0, .ref h), (1, .ref fa)]) hx hb d_MO_fault_95 hl (k := 3) rfl (nI_1 _) (by decide) rfl (fun ls hl => ?_)
                refine lv_goto (tgt := 71) hx hb d_MO_fault_98 (by decide) ?_
                exact ih_71 (j + 1) ls (by omega) (by omega) (lv_sub hl [2, 3, 1, 0] rfl)
        intro jn_69
        refine lv_aload_n hx hb d_MO_fault_42 rfl (lv_at hl 0 rfl) ?_
        refine lv_iconst (v := nI (0)) hx hb d_MO_fault_43 (by decide) ?_
        refine fm_cs S (c_MO_words l dC dI fa cB f 0 (by omega) (fun z => by omega)) rfl rfl k_MO_words q_3_175 ⟨Nat.le_of_ble_eq_true rfl, Nat.le_of_ble_eq_true rfl⟩ (hP.sub [1] rfl) (hK.sub [0] rfl) rfl hl.1 rfl (Nat.le_of_ble_eq_true rfl) ⟨Nat.zero_le _, Nat.zero_le _⟩ d_MO_fault_44 ?_
        have f0_44 := fm_WD_le (fm_RB_lt f) 0
        refine lv_iconst (v := nI (2)) hx hb d_MO_fault_47 (by decide) ?_
        refine lv_icmp_lt (tgt := 63) hx hb d_MO_fault_48 (by decide) (fun c0 => ?_) (fun c0 => ?_)
        · have c_48 : fm_WD (fm_RB f) 0 < 2 := (nI_ltI (a := fm_WD (fm_RB f) 0) (b := 2) (by omega) (by omega)).mp c0
          refine lv_iconst (v := nI (1)) hx hb d_MO_fault_63 (by decide) ?_
          refine lv_goto (tgt := 68) hx hb d_MO_fault_64 (by decide) ?_
          refine fm_tw (z := (fm_bI ((decide (fm_WD (fm_RB f) 0 < 2) || decide (256 < fm_WD (fm_RB f) 8)) || !(fm_all 0 (fm_nz (fm_RB f)))))) (by first | exact fm_bI_1 (by rw [decide_eq_true c_48]; rfl) | exact fm_bI_1 (by rw [decide_eq_true (Nat.lt_of_not_le c_60), Bool.or_true]; rfl) | exact fm_bI_0 (by rw [decide_eq_false c_48, decide_eq_false (Nat.not_lt.mpr c_60)]; rfl)) ?_
          refine lv_istore_n (lv' := [(2, .int (fm_bI ((decide (fm_WD (fm_RB f) 0 < 2) || decide (256 < fm_WD (fm_RB f) 8)) || !(fm_all 0 (fm_nz (fm_RB f)))))), (1, .ref fa), (0, .ref h)]) hx hb d_MO_fault_68 rfl hl (by decide) rfl (fun ls hl => ?_)
          exact jn_69 ls (lv_sub hl [2, 1, 0] rfl)
        · have c_48 : ¬ (fm_WD (fm_RB f) 0 < 2) := fun z => c0 ((nI_ltI (a := fm_WD (fm_RB f) 0) (b := 2) (by omega) (by omega)).mpr z)
          refine lv_aload_n hx hb d_MO_fault_51 rfl (lv_at hl 0 rfl) ?_
          refine lv_bipush (v := nI (8)) hx hb d_MO_fault_52 (by decide) ?_
          refine fm_cs S (c_MO_words l dC dI fa cB f 8 (by omega) (fun z => by omega)) rfl rfl k_MO_words q_3_175 ⟨Nat.le_of_ble_eq_true rfl, Nat.le_of_ble_eq_true rfl⟩ (hP.sub [1] rfl) (hK.sub [0] rfl) rfl hl.1 rfl (Nat.le_of_ble_eq_true rfl) ⟨Nat.zero_le _, Nat.zero_le _⟩ d_MO_fault_54 ?_
          have f0_54 := fm_WD_le (fm_RB_lt f) 8
          refine lv_sipush (v := nI (256)) hx hb d_MO_fault_57 (by decide) ?_
          refine lv_icmp_le (tgt := 67) hx hb d_MO_fault_60 (by decide) (fun c0 => ?_) (fun c0 => ?_)
          · have c_60 : fm_WD (fm_RB f) 8 ≤ 256 := (nI_leI (a := fm_WD (fm_RB f) 8) (b := 256) (by omega) (by omega)).mp c0
            refine lv_iconst (v := nI (0)) hx hb d_MO_fault_67 (by decide) ?_
            refine fm_tw (z := (fm_bI ((decide (fm_WD (fm_RB f) 0 < 2) || decide (256 < fm_WD (fm_RB f) 8)) || !(fm_all 0 (fm_nz (fm_RB f)))))) (by first | exact fm_bI_1 (by rw [decide_eq_true c_48]; rfl) | exact fm_bI_1 (by rw [decide_eq_true (Nat.lt_of_not_le c_60), Bool.or_true]; rfl) | exact fm_bI_0 (by rw [decide_eq_false c_48, decide_eq_false (Nat.not_lt.mpr c_60)]; rfl)) ?_
            refine lv_istore_n (lv' := [(2, .int (fm_bI ((decide (fm_WD (fm_RB f) 0 < 2) || decide (256 < fm_WD (fm_RB f) 8)) || !(fm_all 0 (fm_nz (fm_RB f)))))), (1, .ref fa), (0, .ref h)]) hx hb d_MO_fault_68 rfl hl (by decide) rfl (fun ls hl => ?_)
            exact jn_69 ls (lv_sub hl [2, 1, 0] rfl)
          · have c_60 : ¬ (fm_WD (fm_RB f) 8 ≤ 256) := fun z => c0 ((nI_leI (a := fm_WD (fm_RB f) 8) (b := 256) (by omega) (by omega)).mpr z)
            refine lv_iconst (v := nI (1)) hx hb d_MO_fault_63 (by decide) ?_
            refine lv_goto (tgt := 68) hx hb d_MO_fault_64 (by decide) ?_
            refine fm_tw (z := (fm_bI ((decide (fm_WD (fm_RB f) 0 < 2) || decide (256 < fm_WD (fm_RB f) 8)) || !(fm_all 0 (fm_nz (fm_RB f)))))) (by first | exact fm_bI_1 (by rw [decide_eq_true c_48]; rfl) | exact fm_bI_1 (by rw [decide_eq_true (Nat.lt_of_not_le c_60), Bool.or_true]; rfl) | exact fm_bI_0 (by rw [decide_eq_false c_48, decide_eq_false (Nat.not_lt.mpr c_60)]; rfl)) ?_
            refine lv_istore_n (lv' := [(2, .int (fm_bI ((decide (fm_WD (fm_RB f) 0 < 2) || decide (256 < fm_WD (fm_RB f) 8)) || !(fm_all 0 (fm_nz (fm_RB f)))))), (1, .ref fa), (0, .ref h)]) hx hb d_MO_fault_68 rfl hl (by decide) rfl (fun ls hl => ?_)
            exact jn_69 ls (lv_sub hl [2, 1, 0] rfl)
      · have c_37 : ¬ (fm_HF (fm_RB f) 3 ≤ 255) := fun z => c0 ((nI_leI (a := fm_HF (fm_RB f) 3) (b := 255) (by omega) (by omega)).mpr z)
        refine lv_iconst (v := nI (2)) hx hb d_MO_fault_40 (by decide) ?_
        exact W.iret hx hb hr (fun t ht hW => ⟨_, rfl, by rw [fm_fault, if_neg (by rw [c_9]; decide), if_pos (by omega)], ht⟩) (fun q hq => by cases hq) d_MO_fault_41
  · have c_9 : (fm_small (fm_RB f) n) = false := fm_bI_f c0
    refine lv_iconst (v := nI (1)) hx hb d_MO_fault_12 (by decide) ?_
    exact W.iret hx hb hr (fun t ht hW => ⟨_, rfl, by rw [fm_fault, if_pos c_9], ht⟩) (fun q hq => by cases hq) d_MO_fault_13
