theorem d_MO_step_0 : decode b_MO_step 0 = .ok (.aload_n 0, 1) := by decide +kernel
theorem d_MO_step_1 : decode b_MO_step 1 = .ok (.aload_n 0, 1) := by decide +kernel
theorem d_MO_step_2 : decode b_MO_step 2 = .ok (.getfield 19, 3) := by decide +kernel
theorem d_MO_step_5 : decode b_MO_step 5 = .ok (.iload_n 1, 1) := by decide +kernel
theorem d_MO_step_6 : decode b_MO_step 6 = .ok (.iaload, 1) := by decide +kernel
theorem d_MO_step_7 : decode b_MO_step 7 = .ok (.aload_n 0, 1) := by decide +kernel
theorem d_MO_step_8 : decode b_MO_step 8 = .ok (.getfield 19, 3) := by decide +kernel
theorem d_MO_step_11 : decode b_MO_step 11 = .ok (.iload_n 1, 1) := by decide +kernel
theorem d_MO_step_12 : decode b_MO_step 12 = .ok (.iconst 1, 1) := by decide +kernel
theorem d_MO_step_13 : decode b_MO_step 13 = .ok (.iadd, 1) := by decide +kernel
theorem d_MO_step_14 : decode b_MO_step 14 = .ok (.iaload, 1) := by decide +kernel
theorem d_MO_step_15 : decode b_MO_step 15 = .ok (.invokevirtual 135, 3) := by decide +kernel
theorem d_MO_step_18 : decode b_MO_step 18 = .ok (.istore_n 2, 1) := by decide +kernel
theorem d_MO_step_19 : decode b_MO_step 19 = .ok (.iload_n 2, 1) := by decide +kernel
theorem d_MO_step_20 : decode b_MO_step 20 = .ok (.ifCond .ge 7, 3) := by decide +kernel
theorem d_MO_step_23 : decode b_MO_step 23 = .ok (.iload_n 1, 1) := by decide +kernel
theorem d_MO_step_24 : decode b_MO_step 24 = .ok (.iconst 1, 1) := by decide +kernel
theorem d_MO_step_25 : decode b_MO_step 25 = .ok (.iadd, 1) := by decide +kernel
theorem d_MO_step_26 : decode b_MO_step 26 = .ok (.ireturn, 1) := by decide +kernel
theorem d_MO_step_27 : decode b_MO_step 27 = .ok (.aload_n 0, 1) := by decide +kernel
theorem d_MO_step_28 : decode b_MO_step 28 = .ok (.getfield 13, 3) := by decide +kernel
theorem d_MO_step_31 : decode b_MO_step 31 = .ok (.bipush 6, 2) := by decide +kernel
theorem d_MO_step_33 : decode b_MO_step 33 = .ok (.iload_n 2, 1) := by decide +kernel
theorem d_MO_step_34 : decode b_MO_step 34 = .ok (.iconst 2, 1) := by decide +kernel
theorem d_MO_step_35 : decode b_MO_step 35 = .ok (.invokestatic 43, 3) := by decide +kernel
theorem d_MO_step_38 : decode b_MO_step 38 = .ok (.istore_n 3, 1) := by decide +kernel
theorem d_MO_step_39 : decode b_MO_step 39 = .ok (.aload_n 0, 1) := by decide +kernel
theorem d_MO_step_40 : decode b_MO_step 40 = .ok (.getfield 13, 3) := by decide +kernel
theorem d_MO_step_43 : decode b_MO_step 43 = .ok (.bipush 6, 2) := by decide +kernel
theorem d_MO_step_45 : decode b_MO_step 45 = .ok (.iload_n 2, 1) := by decide +kernel
theorem d_MO_step_46 : decode b_MO_step 46 = .ok (.iconst 3, 1) := by decide +kernel
theorem d_MO_step_47 : decode b_MO_step 47 = .ok (.invokestatic 43, 3) := by decide +kernel
theorem d_MO_step_50 : decode b_MO_step 50 = .ok (.istore 4, 2) := by decide +kernel
theorem d_MO_step_52 : decode b_MO_step 52 = .ok (.iload_n 3, 1) := by decide +kernel
theorem d_MO_step_53 : decode b_MO_step 53 = .ok (.sipush 128, 3) := by decide +kernel
theorem d_MO_step_56 : decode b_MO_step 56 = .ok (.if_icmp .lt 35, 3) := by decide +kernel
theorem d_MO_step_59 : decode b_MO_step 59 = .ok (.aload_n 0, 1) := by decide +kernel
theorem d_MO_step_60 : decode b_MO_step 60 = .ok (.iload_n 1, 1) := by decide +kernel
theorem d_MO_step_61 : decode b_MO_step 61 = .ok (.iconst 1, 1) := by decide +kernel
theorem d_MO_step_62 : decode b_MO_step 62 = .ok (.iadd, 1) := by decide +kernel
theorem d_MO_step_63 : decode b_MO_step 63 = .ok (.sipush 257, 3) := by decide +kernel
theorem d_MO_step_66 : decode b_MO_step 66 = .ok (.aload_n 0, 1) := by decide +kernel
theorem d_MO_step_67 : decode b_MO_step 67 = .ok (.bipush 7, 2) := by decide +kernel
theorem d_MO_step_69 : decode b_MO_step 69 = .ok (.sipush 256, 3) := by decide +kernel
theorem d_MO_step_72 : decode b_MO_step 72 = .ok (.iload_n 3, 1) := by decide +kernel
theorem d_MO_step_73 : decode b_MO_step 73 = .ok (.sipush 128, 3) := by decide +kernel
theorem d_MO_step_76 : decode b_MO_step 76 = .ok (.isub, 1) := by decide +kernel
theorem d_MO_step_77 : decode b_MO_step 77 = .ok (.imul, 1) := by decide +kernel
theorem d_MO_step_78 : decode b_MO_step 78 = .ok (.iload 4, 2) := by decide +kernel
theorem d_MO_step_80 : decode b_MO_step 80 = .ok (.iadd, 1) := by decide +kernel
theorem d_MO_step_81 : decode b_MO_step 81 = .ok (.invokevirtual 124, 3) := by decide +kernel
theorem d_MO_step_84 : decode b_MO_step 84 = .ok (.invokevirtual 141, 3) := by decide +kernel
theorem d_MO_step_87 : decode b_MO_step 87 = .ok (.iload_n 1, 1) := by decide +kernel
theorem d_MO_step_88 : decode b_MO_step 88 = .ok (.iconst 2, 1) := by decide +kernel
theorem d_MO_step_89 : decode b_MO_step 89 = .ok (.iadd, 1) := by decide +kernel
theorem d_MO_step_90 : decode b_MO_step 90 = .ok (.ireturn, 1) := by decide +kernel
theorem d_MO_step_91 : decode b_MO_step 91 = .ok (.aload_n 0, 1) := by decide +kernel
theorem d_MO_step_92 : decode b_MO_step 92 = .ok (.iload_n 1, 1) := by decide +kernel
theorem d_MO_step_93 : decode b_MO_step 93 = .ok (.iconst 1, 1) := by decide +kernel
theorem d_MO_step_94 : decode b_MO_step 94 = .ok (.iadd, 1) := by decide +kernel
theorem d_MO_step_95 : decode b_MO_step 95 = .ok (.iload 4, 2) := by decide +kernel
theorem d_MO_step_97 : decode b_MO_step 97 = .ok (.iconst 0, 1) := by decide +kernel
theorem d_MO_step_98 : decode b_MO_step 98 = .ok (.invokevirtual 141, 3) := by decide +kernel
theorem d_MO_step_101 : decode b_MO_step 101 = .ok (.iload_n 3, 1) := by decide +kernel
theorem d_MO_step_102 : decode b_MO_step 102 = .ok (.iconst 2, 1) := by decide +kernel
theorem d_MO_step_103 : decode b_MO_step 103 = .ok (.irem, 1) := by decide +kernel
theorem d_MO_step_104 : decode b_MO_step 104 = .ok (.ifCond .ne 10, 3) := by decide +kernel
theorem d_MO_step_107 : decode b_MO_step 107 = .ok (.aload_n 0, 1) := by decide +kernel
theorem d_MO_step_108 : decode b_MO_step 108 = .ok (.iload_n 1, 1) := by decide +kernel
theorem d_MO_step_109 : decode b_MO_step 109 = .ok (.iconst 2, 1) := by decide +kernel
theorem d_MO_step_110 : decode b_MO_step 110 = .ok (.iadd, 1) := by decide +kernel
theorem d_MO_step_111 : decode b_MO_step 111 = .ok (.invokevirtual 145, 3) := by decide +kernel
theorem d_MO_step_114 : decode b_MO_step 114 = .ok (.iload_n 3, 1) := by decide +kernel
theorem d_MO_step_115 : decode b_MO_step 115 = .ok (.iconst 2, 1) := by decide +kernel
theorem d_MO_step_116 : decode b_MO_step 116 = .ok (.idiv, 1) := by decide +kernel
theorem d_MO_step_117 : decode b_MO_step 117 = .ok (.iconst 2, 1) := by decide +kernel
theorem d_MO_step_118 : decode b_MO_step 118 = .ok (.irem, 1) := by decide +kernel
theorem d_MO_step_119 : decode b_MO_step 119 = .ok (.ifCond .ne 8, 3) := by decide +kernel
theorem d_MO_step_122 : decode b_MO_step 122 = .ok (.aload_n 0, 1) := by decide +kernel
theorem d_MO_step_123 : decode b_MO_step 123 = .ok (.iload_n 1, 1) := by decide +kernel
theorem d_MO_step_124 : decode b_MO_step 124 = .ok (.invokevirtual 145, 3) := by decide +kernel
theorem d_MO_step_127 : decode b_MO_step 127 = .ok (.iload_n 1, 1) := by decide +kernel
theorem d_MO_step_128 : decode b_MO_step 128 = .ok (.iload_n 3, 1) := by decide +kernel
theorem d_MO_step_129 : decode b_MO_step 129 = .ok (.iconst 4, 1) := by decide +kernel
theorem d_MO_step_130 : decode b_MO_step 130 = .ok (.idiv, 1) := by decide +kernel
theorem d_MO_step_131 : decode b_MO_step 131 = .ok (.iadd, 1) := by decide +kernel
theorem d_MO_step_132 : decode b_MO_step 132 = .ok (.istore 5, 2) := by decide +kernel
theorem d_MO_step_134 : decode b_MO_step 134 = .ok (.iload 5, 2) := by decide +kernel
theorem d_MO_step_136 : decode b_MO_step 136 = .ok (.aload_n 0, 1) := by decide +kernel
theorem d_MO_step_137 : decode b_MO_step 137 = .ok (.getfield 110, 3) := by decide +kernel
theorem d_MO_step_140 : decode b_MO_step 140 = .ok (.if_icmp .ge 8, 3) := by decide +kernel
theorem d_MO_step_143 : decode b_MO_step 143 = .ok (.iload 5, 2) := by decide +kernel
theorem d_MO_step_145 : decode b_MO_step 145 = .ok (.goto 9, 3) := by decide +kernel
theorem d_MO_step_148 : decode b_MO_step 148 = .ok (.aload_n 0, 1) := by decide +kernel
theorem d_MO_step_149 : decode b_MO_step 149 = .ok (.getfield 110, 3) := by decide +kernel
theorem d_MO_step_152 : decode b_MO_step 152 = .ok (.iconst 1, 1) := by decide +kernel
theorem d_MO_step_153 : decode b_MO_step 153 = .ok (.isub, 1) := by decide +kernel
theorem d_MO_step_154 : decode b_MO_step 154 = .ok (.ireturn, 1) := by decide +kernel
set_option maxHeartbeats 4000000 in
set_option maxRecDepth 100000 in
theorem c_MO_step (l : Launch) (dC : Nat → ClassId) (dI : Nat → Nat → Nat) (h : Nat) (th : Int32) (fa : Nat) (n0 : Int32) (ga : Nat) (ld : Int32) (ra : Nat) (rz : Int32) (ka : Nat) (wa : Nat) (cn : Nat) (s0 : Nat) (cB : ClassId) (cI : ClassId) (g : Nat → Int32) (kd : Nat → Int32) (wd : Nat → Int32) (D : List (Nat × Int32)) (x : Nat) (r : Nat) (R : List Nat) (hV : fm_V (fm_RB g)) (hs : s0 < 134217728) (hRL : fm_RL kd wd (D ++ fm_c0 (x :: r :: R))) (hcn : cn = D.length + (R.length + 2)) (hc11 : cn < 1099) (hok : fm_ok (fm_RB g) (x :: r :: R)) : fm_MX (S := (Nat → Int32) × (Nat → Int32)) l (dC, dI) y_MO_step w_MO_step ({ frames := 7, cells := 0, slots := 0, locals := 154 }) [.ref h, .int (nI (D.length))] [(h, .inr (4, [.int (th), .ref fa, .int (n0), .ref ga, .int (ld), .int (nI (s0)), .ref ra, .int (rz), .ref ka, .ref wa, .int (nI (cn))])), (ga, .inl (cB, 8192, .inl (g))), (ka, .inl (cI, 1100, .inl (kd))), (wa, .inl (cI, 1100, .inl (wd)))] [(cB, .byte), (cI, .int)] (fun u => fm_RL u.1 u.2 ((fm_stp (fm_RB g) s0 D (x :: r :: R)).1 ++ fm_c0 (fm_stp (fm_RB g) s0 D (x :: r :: R)).2)) (fun u => (some (.int (nI ((fm_stp (fm_RB g) s0 D (x :: r :: R)).1.length))))) (fun u => [(h, .inr (4, [.int (th), .ref fa, .int (n0), .ref ga, .int (ld), .int (nI (s0)), .ref ra, .int (rz), .ref ka, .ref wa, .int (nI ((fm_stp (fm_RB g) s0 D (x :: r :: R)).1.length + (fm_stp (fm_RB g) s0 D (x :: r :: R)).2.length))])), (ga, .inl (cB, 8192, .inl (g))), (ka, .inl (cI, 1100, .inl (u.1))), (wa, .inl (cI, 1100, .inl (u.2)))]) := by
  refine Met.ofW (cc := b_MO_step) (maxL := 6) (ret := (some .int)) (by decide) rfl ?_
  intro pg ev s m args below meth cd s₁ BD hml hv
  obtain ⟨rfl, hP, hK, hD0⟩ := hv
  have hx := BD.exec
  have hb := BD.bytes
  have hr := BD.returns
  have hts := atoms_spec (ws := w_MO_step) BD.pre
  have ht : ∀ w ∈ fm_T, w.before _ s = true := fun w h => hts w (List.mem_cons_of_mem _ h)
  have hown : s.vm.findClass R_MO = some m.cls := findClass_of_methodNamed BD.named
  have hlocks := BD.notSynchronized
  have S : CallFix pg m cd b_MO_step 6 s _ w_MO_step R_MO := ⟨hx, hb, hml, hown, hts⟩
  have hD := fm_selfD hD0
  generalize fm_A [(h, .inr (4, [.int (th), .ref fa, .int (n0), .ref ga, .int (ld), .int (nI (s0)), .ref ra, .int (rz), .ref ka, .ref wa, .int (nI (cn))])), (ga, .inl (cB, 8192, .inl (g))), (ka, .inl (cI, 1100, .inl (kd))), (wa, .inl (cI, 1100, .inl (wd)))] = A at hD ⊢
  have hS : va_S A s.heap s.heap [] := va_S.rf
  have hl := lv_entry ([.ref h, .int (nI (D.length))]) (n := 6) (Nat.le_of_ble_eq_true rfl)
  rw [lg_entry_eq]
  generalize (lg_sl ([.ref h, .int (nI (D.length))]) ++ List.replicate (6 - (lg_sl ([.ref h, .int (nI (D.length))])).length) Slot.unset).toArray = ls at hl ⊢
  have hl : lv_has ls 6 [(0, .ref h), (1, .int (nI (D.length)))] := hl
  have hL := hV.1
  obtain ⟨-, hq, h3, h10⟩ := id hL
  have hxx := hok x (by simp)
  have hrx := hok r (by simp)
  have hx256 := fm_le256 hL hxx
  have hr256 := fm_le256 hL hrx
  have hk0 := fm_RL_0 hRL
  have hk1 := fm_RL_1 hRL
  refine lv_aload_n hx hb d_MO_step_0 rfl (lv_at hl 0 rfl) ?_
  refine lv_aload_n hx hb d_MO_step_1 rfl (lv_at hl 0 rfl) ?_
  refine va_get (D := (dC, dI)) (ci := 4) (v := .ref ka) (C := R_MO) (T := F_MO) (N := 11) hx hb ht i_MO hown hK hP 0 rfl rfl 8 (by decide) (ht _ q_3_121) (fun _ h9 => h9) rfl d_MO_step_2 ?_
  refine lv_iload_n hx hb d_MO_step_5 rfl (lv_at hl 1 rfl) ?_
  refine va_iald hx hb hK hP 2 1 rfl rfl (vp_in_nI (by omega) (by omega)) d_MO_step_6 ?_
  refine fm_tw (z := kd (D.length)) (by rw [nI_clamp (by omega)]) ?_
  refine fm_tw (z := nI (x)) (hk0) ?_
  refine lv_aload_n hx hb d_MO_step_7 rfl (lv_at hl 0 rfl) ?_
  refine va_get (D := (dC, dI)) (ci := 4) (v := .ref ka) (C := R_MO) (T := F_MO) (N := 11) hx hb ht i_MO hown hK hP 0 rfl rfl 8 (by decide) (ht _ q_3_121) (fun _ h9 => h9) rfl d_MO_step_8 ?_
  refine lv_iload_n hx hb d_MO_step_11 rfl (lv_at hl 1 rfl) ?_
  refine lv_iconst (v := nI (1)) hx hb d_MO_step_12 (by decide) ?_
  refine lv_iadd hx hb d_MO_step_13 ?_
  refine fm_tw (z := nI (D.length + 1)) (nI_add _ _) ?_
  refine va_iald hx hb hK hP 2 1 rfl rfl (vp_in_nI (by omega) (by omega)) d_MO_step_14 ?_
  refine fm_tw (z := kd (D.length + 1)) (by rw [nI_clamp (by omega)]) ?_
  refine fm_tw (z := nI (r)) (hk1) ?_
  refine fm_cv S (c_MO_found l dC dI h th fa n0 ga ld (nI (s0)) ra rz ka wa (nI (cn)) cB g x r (hV) (hxx) (by omega)) rfl rfl k_MO_found q_4_30 ⟨Nat.le_of_ble_eq_true rfl, Nat.le_of_ble_eq_true rfl⟩ (hP.sub [0, 1] rfl) (hK.sub [0] rfl) 0 rfl rfl rfl hl.1 rfl (Nat.le_of_ble_eq_true rfl) ⟨Nat.zero_le _, Nat.zero_le _⟩ d_MO_step_15 ?_
  refine lv_istore_n (lv' := [(2, .int (fm_oI (fm_fd (fm_RB g) x r))), (0, .ref h), (1, .int (nI (D.length)))]) hx hb d_MO_step_18 rfl hl (by decide) rfl (fun ls hl => ?_)
  refine lv_iload_n hx hb d_MO_step_19 rfl (lv_at hl 0 rfl) ?_
  refine lv_if_ge (tgt := 27) hx hb d_MO_step_20 (by decide) (fun c0 => ?_) (fun c0 => ?_)
  · have c_20 := c0
    obtain ⟨k, hk⟩ := fm_oI_ge (Int32.not_lt.mpr c_20)
    have hkw := fm_V_fd hV hxx hk
    have hsk := fm_fd_skip hk
    have hin := fm_pin hL (by decide : 6 < 10) hkw
    have hl : lv_has ls 6 [(2, .int (nI (k))), (0, .ref h), (1, .int (nI (D.length)))] := by rw [show ((fm_oI (fm_fd (fm_RB g) x r)) : Int32) = nI (k) from by rw [hk]; rfl] at hl; exact hl
    refine lv_aload_n hx hb d_MO_step_27 rfl (lv_at hl 1 rfl) ?_
    refine va_get (D := (dC, dI)) (ci := 4) (v := .ref ga) (C := R_MO) (T := F_MO) (N := 11) hx hb ht i_MO hown hK hP 0 rfl rfl 3 (by decide) (ht _ q_3_116) (fun _ h9 => h9) rfl d_MO_step_28 ?_
    refine lv_bipush (v := nI (6)) hx hb d_MO_step_31 (by decide) ?_
    refine lv_iload_n hx hb d_MO_step_33 rfl (lv_at hl 0 rfl) ?_
    refine lv_iconst (v := nI (2)) hx hb d_MO_step_34 (by decide) ?_
    refine fm_cs S (c_MO_at l dC dI ga cB g 6 k 2 (by omega) (hq) (by omega) (by omega)) rfl rfl k_MO_at q_3_184 ⟨Nat.le_of_ble_eq_true rfl, Nat.le_of_ble_eq_true rfl⟩ (hP.sub [1] rfl) (hK.sub [0] rfl) rfl hl.1 rfl (Nat.le_of_ble_eq_true rfl) ⟨Nat.zero_le _, Nat.zero_le _⟩ d_MO_step_35 ?_
    have f0_35 := fm_AT_lt (fm_RB_lt g) 6 k 2
    refine lv_istore_n (lv' := [(3, .int (nI (fm_AT (fm_RB g) 6 k 2))), (2, .int (nI (k))), (0, .ref h), (1, .int (nI (D.length)))]) hx hb d_MO_step_38 rfl hl (by decide) rfl (fun ls hl => ?_)
    refine lv_aload_n hx hb d_MO_step_39 rfl (lv_at hl 2 rfl) ?_
    refine va_get (D := (dC, dI)) (ci := 4) (v := .ref ga) (C := R_MO) (T := F_MO) (N := 11) hx hb ht i_MO hown hK hP 0 rfl rfl 3 (by decide) (ht _ q_3_116) (fun _ h9 => h9) rfl d_MO_step_40 ?_
    refine lv_bipush (v := nI (6)) hx hb d_MO_step_43 (by decide) ?_
    refine lv_iload_n hx hb d_MO_step_45 rfl (lv_at hl 1 rfl) ?_
    refine lv_iconst (v := nI (3)) hx hb d_MO_step_46 (by decide) ?_
    refine fm_cs S (c_MO_at l dC dI ga cB g 6 k 3 (by omega) (hq) (by omega) (by omega)) rfl rfl k_MO_at q_3_184 ⟨Nat.le_of_ble_eq_true rfl, Nat.le_of_ble_eq_true rfl⟩ (hP.sub [1] rfl) (hK.sub [0] rfl) rfl hl.1 rfl (Nat.le_of_ble_eq_true rfl) ⟨Nat.zero_le _, Nat.zero_le _⟩ d_MO_step_47 ?_
    have f0_47 := fm_AT_lt (fm_RB_lt g) 6 k 3
    refine lv_istore (lv' := [(4, .int (nI (fm_AT (fm_RB g) 6 k 3))), (3, .int (nI (fm_AT (fm_RB g) 6 k 2))), (2, .int (nI (k))), (0, .ref h), (1, .int (nI (D.length)))]) hx hb d_MO_step_50 hl (by decide) rfl (fun ls hl => ?_)
    refine lv_iload_n hx hb d_MO_step_52 rfl (lv_at hl 1 rfl) ?_
    refine lv_sipush (v := nI (128)) hx hb d_MO_step_53 (by decide) ?_
    refine lv_icmp_lt (tgt := 91) hx hb d_MO_step_56 (by decide) (fun c0 => ?_) (fun c0 => ?_)
    · have c_56 : fm_AT (fm_RB g) 6 k 2 < 128 := (nI_ltI (a := fm_AT (fm_RB g) 6 k 2) (b := 128) (by omega) (by omega)).mp c0
      refine lv_aload_n hx hb d_MO_step_91 rfl (lv_at hl 3 rfl) ?_
      refine lv_iload_n hx hb d_MO_step_92 rfl (lv_at hl 4 rfl) ?_
      refine lv_iconst (v := nI (1)) hx hb d_MO_step_93 (by decide) ?_
      refine lv_iadd hx hb d_MO_step_94 ?_
      refine fm_tw (z := nI (D.length + 1)) (nI_add _ _) ?_
      refine lv_iload hx hb d_MO_step_95 (lv_at hl 0 rfl) ?_
      refine lv_iconst (v := nI (0)) hx hb d_MO_step_97 (by decide) ?_
      refine fm_wv S (c_MO_insert l dC dI h th fa n0 ga ld (nI (s0)) ra rz ka wa cn cI kd wd (D.length + 1) (nI (fm_AT (fm_RB g) 6 k 3)) (nI (0)) (by omega) (by omega)) rfl rfl k_MO_insert q_4_42 ⟨Nat.le_of_ble_eq_true rfl, Nat.le_of_ble_eq_true rfl⟩ hP hD hS (hK.sub [1] rfl) [0, 2, 3] (by decide) rfl 0 rfl rfl rfl hl.1 rfl (Nat.le_of_ble_eq_true rfl) ⟨Nat.zero_le _, Nat.zero_le _⟩ d_MO_step_98 [(h, .inr (4, [.int (th), .ref fa, .int (n0), .ref ga, .int (ld), .int (nI (s0)), .ref ra, .int (rz), .ref ka, .ref wa, .int (nI (cn + 1))])), (ga, .inl (cB, 8192, .inl (g))), (ka, .inl (cI, 1100, .inl (fm_ins kd cn (D.length + 1) (nI (fm_AT (fm_RB g) 6 k 3))))), (wa, .inl (cI, 1100, .inl (fm_ins wd cn (D.length + 1) (nI (0)))))] [1] rfl rfl (show ∀ i, i < 4 → i ∈ ([0, 2, 3] : List Nat) ∨ i ∈ ([1] : List Nat) by decide) (by decide) rfl (fun H locs hP hD hS => ?_)
      have hP : va_P (dC, dI) classes [(h, .inr (4, [.int (th), .ref fa, .int (n0), .ref ga, .int (ld), .int (nI (s0)), .ref ra, .int (rz), .ref ka, .ref wa, .int (nI (cn + 1))])), (ga, .inl (cB, 8192, .inl (g))), (ka, .inl (cI, 1100, .inl (fm_ins kd cn (D.length + 1) (nI (fm_AT (fm_RB g) 6 k 3))))), (wa, .inl (cI, 1100, .inl (fm_ins wd cn (D.length + 1) (nI (0)))))] _ := hP
      have hD : va_D A [(h, .inr (4, [.int (th), .ref fa, .int (n0), .ref ga, .int (ld), .int (nI (s0)), .ref ra, .int (rz), .ref ka, .ref wa, .int (nI (cn + 1))])), (ga, .inl (cB, 8192, .inl (g))), (ka, .inl (cI, 1100, .inl (fm_ins kd cn (D.length + 1) (nI (fm_AT (fm_RB g) 6 k 3))))), (wa, .inl (cI, 1100, .inl (fm_ins wd cn (D.length + 1) (nI (0)))))] := hD
      refine lv_iload_n hx hb d_MO_step_101 rfl (lv_at hl 1 rfl) ?_
      refine lv_iconst (v := nI (2)) hx hb d_MO_step_102 (by decide) ?_
      refine lv_irem hx hb d_MO_step_103 (by decide) ?_
      refine fm_tw (z := nI ((fm_AT (fm_RB g) 6 k 2) % 2)) (pk_rem (by omega) (by omega) (by omega)) ?_
      refine lv_if_ne (tgt := 114) hx hb d_MO_step_104 (by decide) (fun c0 => ?_) (fun c0 => ?_)
      · have c_104 : ¬ ((fm_AT (fm_RB g) 6 k 2) % 2 = 0) := fun z => c0 ((nI_eq (a := (fm_AT (fm_RB g) 6 k 2) % 2) (b := 0) (by omega) (by omega)).mpr z)
        refine lv_iload_n hx hb d_MO_step_114 rfl (lv_at hl 1 rfl) ?_
        refine lv_iconst (v := nI (2)) hx hb d_MO_step_115 (by decide) ?_
        refine lv_idiv hx hb d_MO_step_116 (by decide) ?_
        refine fm_tw (z := nI ((fm_AT (fm_RB g) 6 k 2) / 2)) (pk_div (by omega) (by omega) (by omega)) ?_
        refine lv_iconst (v := nI (2)) hx hb d_MO_step_117 (by decide) ?_
        refine lv_irem hx hb d_MO_step_118 (by decide) ?_
        refine fm_tw (z := nI (((fm_AT (fm_RB g) 6 k 2) / 2) % 2)) (pk_rem (by omega) (by omega) (by omega)) ?_
        refine lv_if_ne (tgt := 127) hx hb d_MO_step_119 (by decide) (fun c0 => ?_) (fun c0 => ?_)
        · have c_119 : ¬ (((fm_AT (fm_RB g) 6 k 2) / 2) % 2 = 0) := fun z => c0 ((nI_eq (a := ((fm_AT (fm_RB g) 6 k 2) / 2) % 2) (b := 0) (by omega) (by omega)).mpr z)
          have h9 : fm_RL (fm_ins kd cn (D.length + 1) (nI (fm_AT (fm_RB g) 6 k 3))) (fm_ins wd cn (D.length + 1) (nI (0))) (D ++ fm_c0 (fm_new (fm_AT (fm_RB g) 6 k 2) (fm_AT (fm_RB g) 6 k 3) x r R)) := by first | exact fm_RL_11 hRL hcn c_104 c_119 | exact fm_RL_10 hRL hcn c_104 c_119 | exact fm_RL_01 hRL hcn c_104 c_119 | exact fm_RL_00 hRL hcn c_104 c_119
          have hN : (fm_new (fm_AT (fm_RB g) 6 k 2) (fm_AT (fm_RB g) 6 k 3) x r R).length + D.length = cn + 1 := by first | (rw [fm_new_11 c_104 c_119]; omega) | (rw [fm_new_10 c_104 c_119]; omega) | (rw [fm_new_01 c_104 c_119]; omega) | (rw [fm_new_00 c_104 c_119]; omega)
          have e9 : (fm_stp (fm_RB g) s0 D (x :: r :: R)).1.length + (fm_stp (fm_RB g) s0 D (x :: r :: R)).2.length = cn + 1 := by rw [fm_stp_l hk (by omega)]; simp only [List.length_append, fm_c0, List.length_map, List.length_take, List.length_drop, List.length_cons, List.length_nil]; omega
          refine lv_iload_n hx hb d_MO_step_127 rfl (lv_at hl 4 rfl) ?_
          refine lv_iload_n hx hb d_MO_step_128 rfl (lv_at hl 1 rfl) ?_
          refine lv_iconst (v := nI (4)) hx hb d_MO_step_129 (by decide) ?_
          refine lv_idiv hx hb d_MO_step_130 (by decide) ?_
          refine fm_tw (z := nI ((fm_AT (fm_RB g) 6 k 2) / 4)) (pk_div (by omega) (by omega) (by omega)) ?_
          refine lv_iadd hx hb d_MO_step_131 ?_
          refine fm_tw (z := nI (D.length + (fm_AT (fm_RB g) 6 k 2) / 4)) (nI_add _ _) ?_
          refine lv_istore (lv' := [(5, .int (nI (D.length + (fm_AT (fm_RB g) 6 k 2) / 4))), (4, .int (nI (fm_AT (fm_RB g) 6 k 3))), (3, .int (nI (fm_AT (fm_RB g) 6 k 2))), (2, .int (nI (k))), (0, .ref h), (1, .int (nI (D.length)))]) hx hb d_MO_step_132 hl (by decide) rfl (fun ls hl => ?_)
          refine lv_iload hx hb d_MO_step_134 (lv_at hl 0 rfl) ?_
          refine lv_aload_n hx hb d_MO_step_136 rfl (lv_at hl 4 rfl) ?_
          refine va_get (D := (dC, dI)) (ci := 4) (v := .int (nI (cn + 1))) (C := R_MO) (T := F_MO) (N := 11) hx hb ht i_MO hown hK hP 0 rfl rfl 10 (by decide) (ht _ q_3_123) (fun _ h9 => h9) rfl d_MO_step_137 ?_
          refine lv_icmp_ge (tgt := 148) hx hb d_MO_step_140 (by decide) (fun c0 => ?_) (fun c0 => ?_)
          · have c_140 : cn + 1 ≤ D.length + (fm_AT (fm_RB g) 6 k 2) / 4 := (nI_leI (a := cn + 1) (b := D.length + (fm_AT (fm_RB g) 6 k 2) / 4) (by omega) (by omega)).mp c0
            refine lv_aload_n hx hb d_MO_step_148 rfl (lv_at hl 4 rfl) ?_
            refine va_get (D := (dC, dI)) (ci := 4) (v := .int (nI (cn + 1))) (C := R_MO) (T := F_MO) (N := 11) hx hb ht i_MO hown hK hP 0 rfl rfl 10 (by decide) (ht _ q_3_123) (fun _ h9 => h9) rfl d_MO_step_149 ?_
            refine lv_iconst (v := nI (1)) hx hb d_MO_step_152 (by decide) ?_
            refine lv_isub hx hb d_MO_step_153 ?_
            refine fm_tw (z := nI (cn + 1 - 1)) (pk_sub (by omega)) ?_
            exact W.iret hx hb hr (fun t ht hW => ⟨(fm_ins kd cn (D.length + 1) (nI (fm_AT (fm_RB g) 6 k 3)), fm_ins wd cn (D.length + 1) (nI (0))), (by rw [fm_stp_all hk (by omega)]; exact h9), congrArg (fun z => Outcome.returned (some (Value.int z))) (congrArg nI (by rw [fm_stp_l hk (by omega)]; simp only [List.length_append, fm_c0, List.length_map, List.length_take, List.length_drop, List.length_cons, List.length_nil]; omega)), by rw [ht]; exact show va_P (dC, dI) classes [(h, .inr (4, [.int (th), .ref fa, .int (n0), .ref ga, .int (ld), .int (nI (s0)), .ref ra, .int (rz), .ref ka, .ref wa, .int (nI ((fm_stp (fm_RB g) s0 D (x :: r :: R)).1.length + (fm_stp (fm_RB g) s0 D (x :: r :: R)).2.length))])), (ga, .inl (cB, 8192, .inl (g))), (ka, .inl (cI, 1100, .inl (fm_ins kd cn (D.length + 1) (nI (fm_AT (fm_RB g) 6 k 3))))), (wa, .inl (cI, 1100, .inl (fm_ins wd cn (D.length + 1) (nI (0)))))] _ from (by rw [e9]; exact hP), hS.F ht⟩) hS.2.2 d_MO_step_154
          · have c_140 : ¬ (cn + 1 ≤ D.length + (fm_AT (fm_RB g) 6 k 2) / 4) := fun z => c0 ((nI_leI (a := cn + 1) (b := D.length + (fm_AT (fm_RB g) 6 k 2) / 4) (by omega) (by omega)).mpr z)
            refine lv_iload hx hb d_MO_step_143 (lv_at hl 0 rfl) ?_
            refine lv_goto (tgt := 154) hx hb d_MO_step_145 (by decide) ?_
            exact W.iret hx hb hr (fun t ht hW => ⟨(fm_ins kd cn (D.length + 1) (nI (fm_AT (fm_RB g) 6 k 3)), fm_ins wd cn (D.length + 1) (nI (0))), (by rw [fm_stp_all hk (by omega)]; exact h9), congrArg (fun z => Outcome.returned (some (Value.int z))) (congrArg nI (by rw [fm_stp_l hk (by omega)]; simp only [List.length_append, fm_c0, List.length_map, List.length_take, List.length_drop, List.length_cons, List.length_nil]; omega)), by rw [ht]; exact show va_P (dC, dI) classes [(h, .inr (4, [.int (th), .ref fa, .int (n0), .ref ga, .int (ld), .int (nI (s0)), .ref ra, .int (rz), .ref ka, .ref wa, .int (nI ((fm_stp (fm_RB g) s0 D (x :: r :: R)).1.length + (fm_stp (fm_RB g) s0 D (x :: r :: R)).2.length))])), (ga, .inl (cB, 8192, .inl (g))), (ka, .inl (cI, 1100, .inl (fm_ins kd cn (D.length + 1) (nI (fm_AT (fm_RB g) 6 k 3))))), (wa, .inl (cI, 1100, .inl (fm_ins wd cn (D.length + 1) (nI (0)))))] _ from (by rw [e9]; exact hP), hS.F ht⟩) hS.2.2 d_MO_step_154
        · have c_119 : ((fm_AT (fm_RB g) 6 k 2) / 2) % 2 = 0 := (nI_eq (a := ((fm_AT (fm_RB g) 6 k 2) / 2) % 2) (b := 0) (by omega) (by omega)).mp c0
          refine lv_aload_n hx hb d_MO_step_122 rfl (lv_at hl 3 rfl) ?_
          refine lv_iload_n hx hb d_MO_step_123 rfl (lv_at hl 4 rfl) ?_
          refine fm_wv S (c_MO_remove l dC dI h th fa n0 ga ld (nI (s0)) ra rz ka wa (cn + 1) cI (fm_ins kd cn (D.length + 1) (nI (fm_AT (fm_RB g) 6 k 3))) (fm_ins wd cn (D.length + 1) (nI (0))) D.length (by omega) (by omega)) rfl rfl k_MO_remove q_4_50 ⟨Nat.le_of_ble_eq_true rfl, Nat.le_of_ble_eq_true rfl⟩ hP hD hS (hK.sub [1] rfl) [0, 2, 3] (by decide) rfl 0 rfl rfl rfl hl.1 rfl (Nat.le_of_ble_eq_true rfl) ⟨Nat.zero_le _, Nat.zero_le _⟩ d_MO_step_124 [(h, .inr (4, [.int (th), .ref fa, .int (n0), .ref ga, .int (ld), .int (nI (s0)), .ref ra, .int (rz), .ref ka, .ref wa, .int (nI ((cn + 1) - 1))])), (ga, .inl (cB, 8192, .inl (g))), (ka, .inl (cI, 1100, .inl (fm_rm (fm_ins kd cn (D.length + 1) (nI (fm_AT (fm_RB g) 6 k 3))) D.length ((cn + 1) - 1)))), (wa, .inl (cI, 1100, .inl (fm_rm (fm_ins wd cn (D.length + 1) (nI (0))) D.length ((cn + 1) - 1))))] [1] rfl rfl (show ∀ i, i < 4 → i ∈ ([0, 2, 3] : List Nat) ∨ i ∈ ([1] : List Nat) by decide) (by decide) rfl (fun H locs hP hD hS => ?_)
          have hP : va_P (dC, dI) classes [(h, .inr (4, [.int (th), .ref fa, .int (n0), .ref ga, .int (ld), .int (nI (s0)), .ref ra, .int (rz), .ref ka, .ref wa, .int (nI ((cn + 1) - 1))])), (ga, .inl (cB, 8192, .inl (g))), (ka, .inl (cI, 1100, .inl (fm_rm (fm_ins kd cn (D.length + 1) (nI (fm_AT (fm_RB g) 6 k 3))) D.length ((cn + 1) - 1)))), (wa, .inl (cI, 1100, .inl (fm_rm (fm_ins wd cn (D.length + 1) (nI (0))) D.length ((cn + 1) - 1))))] _ := hP
          have hD : va_D A [(h, .inr (4, [.int (th), .ref fa, .int (n0), .ref ga, .int (ld), .int (nI (s0)), .ref ra, .int (rz), .ref ka, .ref wa, .int (nI ((cn + 1) - 1))])), (ga, .inl (cB, 8192, .inl (g))), (ka, .inl (cI, 1100, .inl (fm_rm (fm_ins kd cn (D.length + 1) (nI (fm_AT (fm_RB g) 6 k 3))) D.length ((cn + 1) - 1)))), (wa, .inl (cI, 1100, .inl (fm_rm (fm_ins wd cn (D.length + 1) (nI (0))) D.length ((cn + 1) - 1))))] := hD
          have h9 : fm_RL (fm_rm (fm_ins kd cn (D.length + 1) (nI (fm_AT (fm_RB g) 6 k 3))) D.length ((cn + 1) - 1)) (fm_rm (fm_ins wd cn (D.length + 1) (nI (0))) D.length ((cn + 1) - 1)) (D ++ fm_c0 (fm_new (fm_AT (fm_RB g) 6 k 2) (fm_AT (fm_RB g) 6 k 3) x r R)) := by first | exact fm_RL_11 hRL hcn c_104 c_119 | exact fm_RL_10 hRL hcn c_104 c_119 | exact fm_RL_01 hRL hcn c_104 c_119 | exact fm_RL_00 hRL hcn c_104 c_119
          have hN : (fm_new (fm_AT (fm_RB g) 6 k 2) (fm_AT (fm_RB g) 6 k 3) x r R).length + D.length = (cn + 1) - 1 := by first | (rw [fm_new_11 c_104 c_119]; omega) | (rw [fm_new_10 c_104 c_119]; omega) | (rw [fm_new_01 c_104 c_119]; omega) | (rw [fm_new_00 c_104 c_119]; omega)
          have e9 : (fm_stp (fm_RB g) s0 D (x :: r :: R)).1.length + (fm_stp (fm_RB g) s0 D (x :: r :: R)).2.length = (cn + 1) - 1 := by rw [fm_stp_l hk (by omega)]; simp only [List.length_append, fm_c0, List.length_map, List.length_take, List.length_drop, List.length_cons, List.length_nil]; omega
          refine lv_iload_n hx hb d_MO_step_127 rfl (lv_at hl 4 rfl) ?_
          refine lv_iload_n hx hb d_MO_step_128 rfl (lv_at hl 1 rfl) ?_
          refine lv_iconst (v := nI (4)) hx hb d_MO_step_129 (by decide) ?_
          refine lv_idiv hx hb d_MO_step_130 (by decide) ?_
          refine fm_tw (z := nI ((fm_AT (fm_RB g) 6 k 2) / 4)) (pk_div (by omega) (by omega) (by omega)) ?_
          refine lv_iadd hx hb d_MO_step_131 ?_
          refine fm_tw (z := nI (D.length + (fm_AT (fm_RB g) 6 k 2) / 4)) (nI_add _ _) ?_
          refine lv_istore (lv' := [(5, .int (nI (D.length + (fm_AT (fm_RB g) 6 k 2) / 4))), (4, .int (nI (fm_AT (fm_RB g) 6 k 3))), (3, .int (nI (fm_AT (fm_RB g) 6 k 2))), (2, .int (nI (k))), (0, .ref h), (1, .int (nI (D.length)))]) hx hb d_MO_step_132 hl (by decide) rfl (fun ls hl => ?_)
          refine lv_iload hx hb d_MO_step_134 (lv_at hl 0 rfl) ?_
          refine lv_aload_n hx hb d_MO_step_136 rfl (lv_at hl 4 rfl) ?_
          refine va_get (D := (dC, dI)) (ci := 4) (v := .int (nI ((cn + 1) - 1))) (C := R_MO) (T := F_MO) (N := 11) hx hb ht i_MO hown hK hP 0 rfl rfl 10 (by decide) (ht _ q_3_123) (fun _ h9 => h9) rfl d_MO_step_137 ?_
          refine lv_icmp_ge (tgt := 148) hx hb d_MO_step_140 (by decide) (fun c0 => ?_) (fun c0 => ?_)
          · have c_140 : (cn + 1) - 1 ≤ D.length + (fm_AT (fm_RB g) 6 k 2) / 4 := (nI_leI (a := (cn + 1) - 1) (b := D.length + (fm_AT (fm_RB g) 6 k 2) / 4) (by omega) (by omega)).mp c0
            refine lv_aload_n hx hb d_MO_step_148 rfl (lv_at hl 4 rfl) ?_
            refine va_get (D := (dC, dI)) (ci := 4) (v := .int (nI ((cn + 1) - 1))) (C := R_MO) (T := F_MO) (N := 11) hx hb ht i_MO hown hK hP 0 rfl rfl 10 (by decide) (ht _ q_3_123) (fun _ h9 => h9) rfl d_MO_step_149 ?_
            refine lv_iconst (v := nI (1)) hx hb d_MO_step_152 (by decide) ?_
            refine lv_isub hx hb d_MO_step_153 ?_
            refine fm_tw (z := nI ((cn + 1) - 1 - 1)) (pk_sub (by omega)) ?_
            exact W.iret hx hb hr (fun t ht hW => ⟨(fm_rm (fm_ins kd cn (D.length + 1) (nI (fm_AT (fm_RB g) 6 k 3))) D.length ((cn + 1) - 1), fm_rm (fm_ins wd cn (D.length + 1) (nI (0))) D.length ((cn + 1) - 1)), (by rw [fm_stp_all hk (by omega)]; exact h9), congrArg (fun z => Outcome.returned (some (Value.int z))) (congrArg nI (by rw [fm_stp_l hk (by omega)]; simp only [List.length_append, fm_c0, List.length_map, List.length_take, List.length_drop, List.length_cons, List.length_nil]; omega)), by rw [ht]; exact show va_P (dC, dI) classes [(h, .inr (4, [.int (th), .ref fa, .int (n0), .ref ga, .int (ld), .int (nI (s0)), .ref ra, .int (rz), .ref ka, .ref wa, .int (nI ((fm_stp (fm_RB g) s0 D (x :: r :: R)).1.length + (fm_stp (fm_RB g) s0 D (x :: r :: R)).2.length))])), (ga, .inl (cB, 8192, .inl (g))), (ka, .inl (cI, 1100, .inl (fm_rm (fm_ins kd cn (D.length + 1) (nI (fm_AT (fm_RB g) 6 k 3))) D.length ((cn + 1) - 1)))), (wa, .inl (cI, 1100, .inl (fm_rm (fm_ins wd cn (D.length + 1) (nI (0))) D.length ((cn + 1) - 1))))] _ from (by rw [e9]; exact hP), hS.F ht⟩) hS.2.2 d_MO_step_154
          · have c_140 : ¬ ((cn + 1) - 1 ≤ D.length + (fm_AT (fm_RB g) 6 k 2) / 4) := fun z => c0 ((nI_leI (a := (cn + 1) - 1) (b := D.length + (fm_AT (fm_RB g) 6 k 2) / 4) (by omega) (by omega)).mpr z)
            refine lv_iload hx hb d_MO_step_143 (lv_at hl 0 rfl) ?_
            refine lv_goto (tgt := 154) hx hb d_MO_step_145 (by decide) ?_
            exact W.iret hx hb hr (fun t ht hW => ⟨(fm_rm (fm_ins kd cn (D.length + 1) (nI (fm_AT (fm_RB g) 6 k 3))) D.length ((cn + 1) - 1), fm_rm (fm_ins wd cn (D.length + 1) (nI (0))) D.length ((cn + 1) - 1)), (by rw [fm_stp_all hk (by omega)]; exact h9), congrArg (fun z => Outcome.returned (some (Value.int z))) (congrArg nI (by rw [fm_stp_l hk (by omega)]; simp only [List.length_append, fm_c0, List.length_map, List.length_take, List.length_drop, List.length_cons, List.length_nil]; omega)), by rw [ht]; exact show va_P (dC, dI) classes [(h, .inr (4, [.int (th), .ref fa, .int (n0), .ref ga, .int (ld), .int (nI (s0)), .ref ra, .int (rz), .ref ka, .ref wa, .int (nI ((fm_stp (fm_RB g) s0 D (x :: r :: R)).1.length + (fm_stp (fm_RB g) s0 D (x :: r :: R)).2.length))])), (ga, .inl (cB, 8192, .inl (g))), (ka, .inl (cI, 1100, .inl (fm_rm (fm_ins kd cn (D.length + 1) (nI (fm_AT (fm_RB g) 6 k 3))) D.length ((cn + 1) - 1)))), (wa, .inl (cI, 1100, .inl (fm_rm (fm_ins wd cn (D.length + 1) (nI (0))) D.length ((cn + 1) - 1))))] _ from (by rw [e9]; exact hP), hS.F ht⟩) hS.2.2 d_MO_step_154
      · have c_104 : (fm_AT (fm_RB g) 6 k 2) % 2 = 0 := (nI_eq (a := (fm_AT (fm_RB g) 6 k 2) % 2) (b := 0) (by omega) (by omega)).mp c0
        refine lv_aload_n hx hb d_MO_step_107 rfl (lv_at hl 3 rfl) ?_
        refine lv_iload_n hx hb d_MO_step_108 rfl (lv_at hl 4 rfl) ?_
        refine lv_iconst (v := nI (2)) hx hb d_MO_step_109 (by decide) ?_
        refine lv_iadd hx hb d_MO_step_110 ?_
        refine fm_tw (z := nI (D.length + 2)) (nI_add _ _) ?_
        refine fm_wv S (c_MO_remove l dC dI h th fa n0 ga ld (nI (s0)) ra rz ka wa (cn + 1) cI (fm_ins kd cn (D.length + 1) (nI (fm_AT (fm_RB g) 6 k 3))) (fm_ins wd cn (D.length + 1) (nI (0))) (D.length + 2) (by omega) (by omega)) rfl rfl k_MO_remove q_4_50 ⟨Nat.le_of_ble_eq_true rfl, Nat.le_of_ble_eq_true rfl⟩ hP hD hS (hK.sub [1] rfl) [0, 2, 3] (by decide) rfl 0 rfl rfl rfl hl.1 rfl (Nat.le_of_ble_eq_true rfl) ⟨Nat.zero_le _, Nat.zero_le _⟩ d_MO_step_111 [(h, .inr (4, [.int (th), .ref fa, .int (n0), .ref ga, .int (ld), .int (nI (s0)), .ref ra, .int (rz), .ref ka, .ref wa, .int (nI ((cn + 1) - 1))])), (ga, .inl (cB, 8192, .inl (g))), (ka, .inl (cI, 1100, .inl (fm_rm (fm_ins kd cn (D.length + 1) (nI (fm_AT (fm_RB g) 6 k 3))) (D.length + 2) ((cn + 1) - 1)))), (wa, .inl (cI, 1100, .inl (fm_rm (fm_ins wd cn (D.length + 1) (nI (0))) (D.length + 2) ((cn + 1) - 1))))] [1] rfl rfl (show ∀ i, i < 4 → i ∈ ([0, 2, 3] : List Nat) ∨ i ∈ ([1] : List Nat) by decide) (by decide) rfl (fun H locs hP hD hS => ?_)
        have hP : va_P (dC, dI) classes [(h, .inr (4, [.int (th), .ref fa, .int (n0), .ref ga, .int (ld), .int (nI (s0)), .ref ra, .int (rz), .ref ka, .ref wa, .int (nI ((cn + 1) - 1))])), (ga, .inl (cB, 8192, .inl (g))), (ka, .inl (cI, 1100, .inl (fm_rm (fm_ins kd cn (D.length + 1) (nI (fm_AT (fm_RB g) 6 k 3))) (D.length + 2) ((cn + 1) - 1)))), (wa, .inl (cI, 1100, .inl (fm_rm (fm_ins wd cn (D.length + 1) (nI (0))) (D.length + 2) ((cn + 1) - 1))))] _ := hP
        have hD : va_D A [(h, .inr (4, [.int (th), .ref fa, .int (n0), .ref ga, .int (ld), .int (nI (s0)), .ref ra, .int (rz), .ref ka, .ref wa, .int (nI ((cn + 1) - 1))])), (ga, .inl (cB, 8192, .inl (g))), (ka, .inl (cI, 1100, .inl (fm_rm (fm_ins kd cn (D.length + 1) (nI (fm_AT (fm_RB g) 6 k 3))) (D.length + 2) ((cn + 1) - 1)))), (wa, .inl (cI, 1100, .inl (fm_rm (fm_ins wd cn (D.length + 1) (nI (0))) (D.length + 2) ((cn + 1) - 1))))] := hD
        refine lv_iload_n hx hb d_MO_step_114 rfl (lv_at hl 1 rfl) ?_
        refine lv_iconst (v := nI (2)) hx hb d_MO_step_115 (by decide) ?_
        refine lv_idiv hx hb d_MO_step_116 (by decide) ?_
        refine fm_tw (z := nI ((fm_AT (fm_RB g) 6 k 2) / 2)) (pk_div (by omega) (by omega) (by omega)) ?_
        refine lv_iconst (v := nI (2)) hx hb d_MO_step_117 (by decide) ?_
        refine lv_irem hx hb d_MO_step_118 (by decide) ?_
        refine fm_tw (z := nI (((fm_AT (fm_RB g) 6 k 2) / 2) % 2)) (pk_rem (by omega) (by omega) (by omega)) ?_
        refine lv_if_ne (tgt := 127) hx hb d_MO_step_119 (by decide) (fun c0 => ?_) (fun c0 => ?_)
        · have c_119 : ¬ (((fm_AT (fm_RB g) 6 k 2) / 2) % 2 = 0) := fun z => c0 ((nI_eq (a := ((fm_AT (fm_RB g) 6 k 2) / 2) % 2) (b := 0) (by omega) (by omega)).mpr z)
          have h9 : fm_RL (fm_rm (fm_ins kd cn (D.length + 1) (nI (fm_AT (fm_RB g) 6 k 3))) (D.length + 2) ((cn + 1) - 1)) (fm_rm (fm_ins wd cn (D.length + 1) (nI (0))) (D.length + 2) ((cn + 1) - 1)) (D ++ fm_c0 (fm_new (fm_AT (fm_RB g) 6 k 2) (fm_AT (fm_RB g) 6 k 3) x r R)) := by first | exact fm_RL_11 hRL hcn c_104 c_119 | exact fm_RL_10 hRL hcn c_104 c_119 | exact fm_RL_01 hRL hcn c_104 c_119 | exact fm_RL_00 hRL hcn c_104 c_119
          have hN : (fm_new (fm_AT (fm_RB g) 6 k 2) (fm_AT (fm_RB g) 6 k 3) x r R).length + D.length = (cn + 1) - 1 := by first | (rw [fm_new_11 c_104 c_119]; omega) | (rw [fm_new_10 c_104 c_119]; omega) | (rw [fm_new_01 c_104 c_119]; omega) | (rw [fm_new_00 c_104 c_119]; omega)
          have e9 : (fm_stp (fm_RB g) s0 D (x :: r :: R)).1.length + (fm_stp (fm_RB g) s0 D (x :: r :: R)).2.length = (cn + 1) - 1 := by rw [fm_stp_l hk (by omega)]; simp only [List.length_append, fm_c0, List.length_map, List.length_take, List.length_drop, List.length_cons, List.length_nil]; omega
          refine lv_iload_n hx hb d_MO_step_127 rfl (lv_at hl 4 rfl) ?_
          refine lv_iload_n hx hb d_MO_step_128 rfl (lv_at hl 1 rfl) ?_
          refine lv_iconst (v := nI (4)) hx hb d_MO_step_129 (by decide) ?_
          refine lv_idiv hx hb d_MO_step_130 (by decide) ?_
          refine fm_tw (z := nI ((fm_AT (fm_RB g) 6 k 2) / 4)) (pk_div (by omega) (by omega) (by omega)) ?_
          refine lv_iadd hx hb d_MO_step_131 ?_
          refine fm_tw (z := nI (D.length + (fm_AT (fm_RB g) 6 k 2) / 4)) (nI_add _ _) ?_
          refine lv_istore (lv' := [(5, .int (nI (D.length + (fm_AT (fm_RB g) 6 k 2) / 4))), (4, .int (nI (fm_AT (fm_RB g) 6 k 3))), (3, .int (nI (fm_AT (fm_RB g) 6 k 2))), (2, .int (nI (k))), (0, .ref h), (1, .int (nI (D.length)))]) hx hb d_MO_step_132 hl (by decide) rfl (fun ls hl => ?_)
          refine lv_iload hx hb d_MO_step_134 (lv_at hl 0 rfl) ?_
          refine lv_aload_n hx hb d_MO_step_136 rfl (lv_at hl 4 rfl) ?_
          refine va_get (D := (dC, dI)) (ci := 4) (v := .int (nI ((cn + 1) - 1))) (C := R_MO) (T := F_MO) (N := 11) hx hb ht i_MO hown hK hP 0 rfl rfl 10 (by decide) (ht _ q_3_123) (fun _ h9 => h9) rfl d_MO_step_137 ?_
          refine lv_icmp_ge (tgt := 148) hx hb d_MO_step_140 (by decide) (fun c0 => ?_) (fun c0 => ?_)
          · have c_140 : (cn + 1) - 1 ≤ D.length + (fm_AT (fm_RB g) 6 k 2) / 4 := (nI_leI (a := (cn + 1) - 1) (b := D.length + (fm_AT (fm_RB g) 6 k 2) / 4) (by omega) (by omega)).mp c0
            refine lv_aload_n hx hb d_MO_step_148 rfl (lv_at hl 4 rfl) ?_
            refine va_get (D := (dC, dI)) (ci := 4) (v := .int (nI ((cn + 1) - 1))) (C := R_MO) (T := F_MO) (N := 11) hx hb ht i_MO hown hK hP 0 rfl rfl 10 (by decide) (ht _ q_3_123) (fun _ h9 => h9) rfl d_MO_step_149 ?_
            refine lv_iconst (v := nI (1)) hx hb d_MO_step_152 (by decide) ?_
            refine lv_isub hx hb d_MO_step_153 ?_
            refine fm_tw (z := nI ((cn + 1) - 1 - 1)) (pk_sub (by omega)) ?_
            exact W.iret hx hb hr (fun t ht hW => ⟨(fm_rm (fm_ins kd cn (D.length + 1) (nI (fm_AT (fm_RB g) 6 k 3))) (D.length + 2) ((cn + 1) - 1), fm_rm (fm_ins wd cn (D.length + 1) (nI (0))) (D.length + 2) ((cn + 1) - 1)), (by rw [fm_stp_all hk (by omega)]; exact h9), congrArg (fun z => Outcome.returned (some (Value.int z))) (congrArg nI (by rw [fm_stp_l hk (by omega)]; simp only [List.length_append, fm_c0, List.length_map, List.length_take, List.length_drop, List.length_cons, List.length_nil]; omega)), by rw [ht]; exact show va_P (dC, dI) classes [(h, .inr (4, [.int (th), .ref fa, .int (n0), .ref ga, .int (ld), .int (nI (s0)), .ref ra, .int (rz), .ref ka, .ref wa, .int (nI ((fm_stp (fm_RB g) s0 D (x :: r :: R)).1.length + (fm_stp (fm_RB g) s0 D (x :: r :: R)).2.length))])), (ga, .inl (cB, 8192, .inl (g))), (ka, .inl (cI, 1100, .inl (fm_rm (fm_ins kd cn (D.length + 1) (nI (fm_AT (fm_RB g) 6 k 3))) (D.length + 2) ((cn + 1) - 1)))), (wa, .inl (cI, 1100, .inl (fm_rm (fm_ins wd cn (D.length + 1) (nI (0))) (D.length + 2) ((cn + 1) - 1))))] _ from (by rw [e9]; exact hP), hS.F ht⟩) hS.2.2 d_MO_step_154
          · have c_140 : ¬ ((cn + 1) - 1 ≤ D.length + (fm_AT (fm_RB g) 6 k 2) / 4) := fun z => c0 ((nI_leI (a := (cn + 1) - 1) (b := D.length + (fm_AT (fm_RB g) 6 k 2) / 4) (by omega) (by omega)).mpr z)
            refine lv_iload hx hb d_MO_step_143 (lv_at hl 0 rfl) ?_
            refine lv_goto (tgt := 154) hx hb d_MO_step_145 (by decide) ?_
            exact W.iret hx hb hr (fun t ht hW => ⟨(fm_rm (fm_ins kd cn (D.length + 1) (nI (fm_AT (fm_RB g) 6 k 3))) (D.length + 2) ((cn + 1) - 1), fm_rm (fm_ins wd cn (D.length + 1) (nI (0))) (D.length + 2) ((cn + 1) - 1)), (by rw [fm_stp_all hk (by omega)]; exact h9), congrArg (fun z => Outcome.returned (some (Value.int z))) (congrArg nI (by rw [fm_stp_l hk (by omega)]; simp only [List.length_append, fm_c0, List.length_map, List.length_take, List.length_drop, List.length_cons, List.length_nil]; omega)), by rw [ht]; exact show va_P (dC, dI) classes [(h, .inr (4, [.int (th), .ref fa, .int (n0), .ref ga, .int (ld), .int (nI (s0)), .ref ra, .int (rz), .ref ka, .ref wa, .int (nI ((fm_stp (fm_RB g) s0 D (x :: r :: R)).1.length + (fm_stp (fm_RB g) s0 D (x :: r :: R)).2.length))])), (ga, .inl (cB, 8192, .inl (g))), (ka, .inl (cI, 1100, .inl (fm_rm (fm_ins kd cn (D.length + 1) (nI (fm_AT (fm_RB g) 6 k 3))) (D.length + 2) ((cn + 1) - 1)))), (wa, .inl (cI, 1100, .inl (fm_rm (fm_ins wd cn (D.length + 1) (nI (0))) (D.length + 2) ((cn + 1) - 1))))] _ from (by rw [e9]; exact hP), hS.F ht⟩) hS.2.2 d_MO_step_154
        · have c_119 : ((fm_AT (fm_RB g) 6 k 2) / 2) % 2 = 0 := (nI_eq (a := ((fm_AT (fm_RB g) 6 k 2) / 2) % 2) (b := 0) (by omega) (by omega)).mp c0
          refine lv_aload_n hx hb d_MO_step_122 rfl (lv_at hl 3 rfl) ?_
          refine lv_iload_n hx hb d_MO_step_123 rfl (lv_at hl 4 rfl) ?_
          refine fm_wv S (c_MO_remove l dC dI h th fa n0 ga ld (nI (s0)) ra rz ka wa ((cn + 1) - 1) cI (fm_rm (fm_ins kd cn (D.length + 1) (nI (fm_AT (fm_RB g) 6 k 3))) (D.length + 2) ((cn + 1) - 1)) (fm_rm (fm_ins wd cn (D.length + 1) (nI (0))) (D.length + 2) ((cn + 1) - 1)) D.length (by omega) (by omega)) rfl rfl k_MO_remove q_4_50 ⟨Nat.le_of_ble_eq_true rfl, Nat.le_of_ble_eq_true rfl⟩ hP hD hS (hK.sub [1] rfl) [0, 2, 3] (by decide) rfl 0 rfl rfl rfl hl.1 rfl (Nat.le_of_ble_eq_true rfl) ⟨Nat.zero_le _, Nat.zero_le _⟩ d_MO_step_124 [(h, .inr (4, [.int (th), .ref fa, .int (n0), .ref ga, .int (ld), .int (nI (s0)), .ref ra, .int (rz), .ref ka, .ref wa, .int (nI (((cn + 1) - 1) - 1))])), (ga, .inl (cB, 8192, .inl (g))), (ka, .inl (cI, 1100, .inl (fm_rm (fm_rm (fm_ins kd cn (D.length + 1) (nI (fm_AT (fm_RB g) 6 k 3))) (D.length + 2) ((cn + 1) - 1)) D.length (((cn + 1) - 1) - 1)))), (wa, .inl (cI, 1100, .inl (fm_rm (fm_rm (fm_ins wd cn (D.length + 1) (nI (0))) (D.length + 2) ((cn + 1) - 1)) D.length (((cn + 1) - 1) - 1))))] [1] rfl rfl (show ∀ i, i < 4 → i ∈ ([0, 2, 3] : List Nat) ∨ i ∈ ([1] : List Nat) by decide) (by decide) rfl (fun H locs hP hD hS => ?_)
          have hP : va_P (dC, dI) classes [(h, .inr (4, [.int (th), .ref fa, .int (n0), .ref ga, .int (ld), .int (nI (s0)), .ref ra, .int (rz), .ref ka, .ref wa, .int (nI (((cn + 1) - 1) - 1))])), (ga, .inl (cB, 8192, .inl (g))), (ka, .inl (cI, 1100, .inl (fm_rm (fm_rm (fm_ins kd cn (D.length + 1) (nI (fm_AT (fm_RB g) 6 k 3))) (D.length + 2) ((cn + 1) - 1)) D.length (((cn + 1) - 1) - 1)))), (wa, .inl (cI, 1100, .inl (fm_rm (fm_rm (fm_ins wd cn (D.length + 1) (nI (0))) (D.length + 2) ((cn + 1) - 1)) D.length (((cn + 1) - 1) - 1))))] _ := hP
          have hD : va_D A [(h, .inr (4, [.int (th), .ref fa, .int (n0), .ref ga, .int (ld), .int (nI (s0)), .ref ra, .int (rz), .ref ka, .ref wa, .int (nI (((cn + 1) - 1) - 1))])), (ga, .inl (cB, 8192, .inl (g))), (ka, .inl (cI, 1100, .inl (fm_rm (fm_rm (fm_ins kd cn (D.length + 1) (nI (fm_AT (fm_RB g) 6 k 3))) (D.length + 2) ((cn + 1) - 1)) D.length (((cn + 1) - 1) - 1)))), (wa, .inl (cI, 1100, .inl (fm_rm (fm_rm (fm_ins wd cn (D.length + 1) (nI (0))) (D.length + 2) ((cn + 1) - 1)) D.length (((cn + 1) - 1) - 1))))] := hD
          have h9 : fm_RL (fm_rm (fm_rm (fm_ins kd cn (D.length + 1) (nI (fm_AT (fm_RB g) 6 k 3))) (D.length + 2) ((cn + 1) - 1)) D.length (((cn + 1) - 1) - 1)) (fm_rm (fm_rm (fm_ins wd cn (D.length + 1) (nI (0))) (D.length + 2) ((cn + 1) - 1)) D.length (((cn + 1) - 1) - 1)) (D ++ fm_c0 (fm_new (fm_AT (fm_RB g) 6 k 2) (fm_AT (fm_RB g) 6 k 3) x r R)) := by first | exact fm_RL_11 hRL hcn c_104 c_119 | exact fm_RL_10 hRL hcn c_104 c_119 | exact fm_RL_01 hRL hcn c_104 c_119 | exact fm_RL_00 hRL hcn c_104 c_119
          have hN : (fm_new (fm_AT (fm_RB g) 6 k 2) (fm_AT (fm_RB g) 6 k 3) x r R).length + D.length = ((cn + 1) - 1) - 1 := by first | (rw [fm_new_11 c_104 c_119]; omega) | (rw [fm_new_10 c_104 c_119]; omega) | (rw [fm_new_01 c_104 c_119]; omega) | (rw [fm_new_00 c_104 c_119]; omega)
          have e9 : (fm_stp (fm_RB g) s0 D (x :: r :: R)).1.length + (fm_stp (fm_RB g) s0 D (x :: r :: R)).2.length = ((cn + 1) - 1) - 1 := by rw [fm_stp_l hk (by omega)]; simp only [List.length_append, fm_c0, List.length_map, List.length_take, List.length_drop, List.length_cons, List.length_nil]; omega
          refine lv_iload_n hx hb d_MO_step_127 rfl (lv_at hl 4 rfl) ?_
          refine lv_iload_n hx hb d_MO_step_128 rfl (lv_at hl 1 rfl) ?_
          refine lv_iconst (v := nI (4)) hx hb d_MO_step_129 (by decide) ?_
          refine lv_idiv hx hb d_MO_step_130 (by decide) ?_
          refine fm_tw (z := nI ((fm_AT (fm_RB g) 6 k 2) / 4)) (pk_div (by omega) (by omega) (by omega)) ?_
          refine lv_iadd hx hb d_MO_step_131 ?_
          refine fm_tw (z := nI (D.length + (fm_AT (fm_RB g) 6 k 2) / 4)) (nI_add _ _) ?_
          refine lv_istore (lv' := [(5, .int (nI (D.length + (fm_AT (fm_RB g) 6 k 2) / 4))), (4, .int (nI (fm_AT (fm_RB g) 6 k 3))), (3, .int (nI (fm_AT (fm_RB g) 6 k 2))), (2, .int (nI (k))), (0, .ref h), (1, .int (nI (D.length)))]) hx hb d_MO_step_132 hl (by decide) rfl (fun ls hl => ?_)
          refine lv_iload hx hb d_MO_step_134 (lv_at hl 0 rfl) ?_
          refine lv_aload_n hx hb d_MO_step_136 rfl (lv_at hl 4 rfl) ?_
          refine va_get (D := (dC, dI)) (ci := 4) (v := .int (nI (((cn + 1) - 1) - 1))) (C := R_MO) (T := F_MO) (N := 11) hx hb ht i_MO hown hK hP 0 rfl rfl 10 (by decide) (ht _ q_3_123) (fun _ h9 => h9) rfl d_MO_step_137 ?_
          refine lv_icmp_ge (tgt := 148) hx hb d_MO_step_140 (by decide) (fun c0 => ?_) (fun c0 => ?_)
          · have c_140 : ((cn + 1) - 1) - 1 ≤ D.length + (fm_AT (fm_RB g) 6 k 2) / 4 := (nI_leI (a := ((cn + 1) - 1) - 1) (b := D.length + (fm_AT (fm_RB g) 6 k 2) / 4) (by omega) (by omega)).mp c0
            refine lv_aload_n hx hb d_MO_step_148 rfl (lv_at hl 4 rfl) ?_
            refine va_get (D := (dC, dI)) (ci := 4) (v := .int (nI (((cn + 1) - 1) - 1))) (C := R_MO) (T := F_MO) (N := 11) hx hb ht i_MO hown hK hP 0 rfl rfl 10 (by decide) (ht _ q_3_123) (fun _ h9 => h9) rfl d_MO_step_149 ?_
            refine lv_iconst (v := nI (1)) hx hb d_MO_step_152 (by decide) ?_
            refine lv_isub hx hb d_MO_step_153 ?_
            refine fm_tw (z := nI (((cn + 1) - 1) - 1 - 1)) (pk_sub (by omega)) ?_
            exact W.iret hx hb hr (fun t ht hW => ⟨(fm_rm (fm_rm (fm_ins kd cn (D.length + 1) (nI (fm_AT (fm_RB g) 6 k 3))) (D.length + 2) ((cn + 1) - 1)) D.length (((cn + 1) - 1) - 1), fm_rm (fm_rm (fm_ins wd cn (D.length + 1) (nI (0))) (D.length + 2) ((cn + 1) - 1)) D.length (((cn + 1) - 1) - 1)), (by rw [fm_stp_all hk (by omega)]; exact h9), congrArg (fun z => Outcome.returned (some (Value.int z))) (congrArg nI (by rw [fm_stp_l hk (by omega)]; simp only [List.length_append, fm_c0, List.length_map, List.length_take, List.length_drop, List.length_cons, List.length_nil]; omega)), by rw [ht]; exact show va_P (dC, dI) classes [(h, .inr (4, [.int (th), .ref fa, .int (n0), .ref ga, .int (ld), .int (nI (s0)), .ref ra, .int (rz), .ref ka, .ref wa, .int (nI ((fm_stp (fm_RB g) s0 D (x :: r :: R)).1.length + (fm_stp (fm_RB g) s0 D (x :: r :: R)).2.length))])), (ga, .inl (cB, 8192, .inl (g))), (ka, .inl (cI, 1100, .inl (fm_rm (fm_rm (fm_ins kd cn (D.length + 1) (nI (fm_AT (fm_RB g) 6 k 3))) (D.length + 2) ((cn + 1) - 1)) D.length (((cn + 1) - 1) - 1)))), (wa, .inl (cI, 1100, .inl (fm_rm (fm_rm (fm_ins wd cn (D.length + 1) (nI (0))) (D.length + 2) ((cn + 1) - 1)) D.length (((cn + 1) - 1) - 1))))] _ from (by rw [e9]; exact hP), hS.F ht⟩) hS.2.2 d_MO_step_154
          · have c_140 : ¬ (((cn + 1) - 1) - 1 ≤ D.length + (fm_AT (fm_RB g) 6 k 2) / 4) := fun z => c0 ((nI_leI (a := ((cn + 1) - 1) - 1) (b := D.length + (fm_AT (fm_RB g) 6 k 2) / 4) (by omega) (by omega)).mpr z)
            refine lv_iload hx hb d_MO_step_143 (lv_at hl 0 rfl) ?_
            refine lv_goto (tgt := 154) hx hb d_MO_step_145 (by decide) ?_
            exact W.iret hx hb hr (fun t ht hW => ⟨(fm_rm (fm_rm (fm_ins kd cn (D.length + 1) (nI (fm_AT (fm_RB g) 6 k 3))) (D.length + 2) ((cn + 1) - 1)) D.length (((cn + 1) - 1) - 1), fm_rm (fm_rm (fm_ins wd cn (D.length + 1) (nI (0))) (D.length + 2) ((cn + 1) - 1)) D.length (((cn + 1) - 1) - 1)), (by rw [fm_stp_all hk (by omega)]; exact h9), congrArg (fun z => Outcome.returned (some (Value.int z))) (congrArg nI (by rw [fm_stp_l hk (by omega)]; simp only [List.length_append, fm_c0, List.length_map, List.length_take, List.length_drop, List.length_cons, List.length_nil]; omega)), by rw [ht]; exact show va_P (dC, dI) classes [(h, .inr (4, [.int (th), .ref fa, .int (n0), .ref ga, .int (ld), .int (nI (s0)), .ref ra, .int (rz), .ref ka, .ref wa, .int (nI ((fm_stp (fm_RB g) s0 D (x :: r :: R)).1.length + (fm_stp (fm_RB g) s0 D (x :: r :: R)).2.length))])), (ga, .inl (cB, 8192, .inl (g))), (ka, .inl (cI, 1100, .inl (fm_rm (fm_rm (fm_ins kd cn (D.length + 1) (nI (fm_AT (fm_RB g) 6 k 3))) (D.length + 2) ((cn + 1) - 1)) D.length (((cn + 1) - 1) - 1)))), (wa, .inl (cI, 1100, .inl (fm_rm (fm_rm (fm_ins wd cn (D.length + 1) (nI (0))) (D.length + 2) ((cn + 1) - 1)) D.length (((cn + 1) - 1) - 1))))] _ from (by rw [e9]; exact hP), hS.F ht⟩) hS.2.2 d_MO_step_154
    · have c_56 : ¬ (fm_AT (fm_RB g) 6 k 2 < 128) := fun z => c0 ((nI_ltI (a := fm_AT (fm_RB g) 6 k 2) (b := 128) (by omega) (by omega)).mpr z)
      have hkn := fm_V_kern hV hkw hsk (Nat.not_lt.mp c_56)
      refine lv_aload_n hx hb d_MO_step_59 rfl (lv_at hl 3 rfl) ?_
      refine lv_iload_n hx hb d_MO_step_60 rfl (lv_at hl 4 rfl) ?_
      refine lv_iconst (v := nI (1)) hx hb d_MO_step_61 (by decide) ?_
      refine lv_iadd hx hb d_MO_step_62 ?_
      refine fm_tw (z := nI (D.length + 1)) (nI_add _ _) ?_
      refine lv_sipush (v := nI (257)) hx hb d_MO_step_63 (by decide) ?_
      refine lv_aload_n hx hb d_MO_step_66 rfl (lv_at hl 3 rfl) ?_
      refine lv_bipush (v := nI (7)) hx hb d_MO_step_67 (by decide) ?_
      refine lv_sipush (v := nI (256)) hx hb d_MO_step_69 (by decide) ?_
      refine lv_iload_n hx hb d_MO_step_72 rfl (lv_at hl 1 rfl) ?_
      refine lv_sipush (v := nI (128)) hx hb d_MO_step_73 (by decide) ?_
      refine lv_isub hx hb d_MO_step_76 ?_
      refine fm_tw (z := nI (fm_AT (fm_RB g) 6 k 2 - 128)) (pk_sub (by omega)) ?_
      refine lv_imul hx hb d_MO_step_77 ?_
      refine fm_tw (z := nI (256 * (fm_AT (fm_RB g) 6 k 2 - 128))) (pk_mul _ _) ?_
      refine lv_iload hx hb d_MO_step_78 (lv_at hl 0 rfl) ?_
      refine lv_iadd hx hb d_MO_step_80 ?_
      refine fm_tw (z := nI (256 * (fm_AT (fm_RB g) 6 k 2 - 128) + fm_AT (fm_RB g) 6 k 3)) (nI_add _ _) ?_
      refine fm_cv S (c_MO_scaled l dC dI h th fa n0 ga ld s0 ra rz ka wa (nI (cn)) cB g 7 (256 * (fm_AT (fm_RB g) 6 k 2 - 128) + fm_AT (fm_RB g) 6 k 3) (hL) (hs) (by omega) (fm_pin hL (by decide : 7 < 10) hkn)) rfl rfl k_MO_scaled q_4_6 ⟨Nat.le_of_ble_eq_true rfl, Nat.le_of_ble_eq_true rfl⟩ (hP.sub [0, 1] rfl) (hK.sub [0] rfl) 0 rfl rfl rfl hl.1 rfl (Nat.le_of_ble_eq_true rfl) ⟨Nat.zero_le _, Nat.zero_le _⟩ d_MO_step_81 ?_
      refine fm_wv S (c_MO_insert l dC dI h th fa n0 ga ld (nI (s0)) ra rz ka wa cn cI kd wd (D.length + 1) (nI (257)) (fm_sc (fm_RB g) s0 7 (256 * (fm_AT (fm_RB g) 6 k 2 - 128) + fm_AT (fm_RB g) 6 k 3)) (by omega) (by omega)) rfl rfl k_MO_insert q_4_42 ⟨Nat.le_of_ble_eq_true rfl, Nat.le_of_ble_eq_true rfl⟩ hP hD hS (hK.sub [1] rfl) [0, 2, 3] (by decide) rfl 0 rfl rfl rfl hl.1 rfl (Nat.le_of_ble_eq_true rfl) ⟨Nat.zero_le _, Nat.zero_le _⟩ d_MO_step_84 [(h, .inr (4, [.int (th), .ref fa, .int (n0), .ref ga, .int (ld), .int (nI (s0)), .ref ra, .int (rz), .ref ka, .ref wa, .int (nI (cn + 1))])), (ga, .inl (cB, 8192, .inl (g))), (ka, .inl (cI, 1100, .inl (fm_ins kd cn (D.length + 1) (nI (257))))), (wa, .inl (cI, 1100, .inl (fm_ins wd cn (D.length + 1) (fm_sc (fm_RB g) s0 7 (256 * (fm_AT (fm_RB g) 6 k 2 - 128) + fm_AT (fm_RB g) 6 k 3)))))] [1] rfl rfl (show ∀ i, i < 4 → i ∈ ([0, 2, 3] : List Nat) ∨ i ∈ ([1] : List Nat) by decide) (by decide) rfl (fun H locs hP hD hS => ?_)
      have hP : va_P (dC, dI) classes [(h, .inr (4, [.int (th), .ref fa, .int (n0), .ref ga, .int (ld), .int (nI (s0)), .ref ra, .int (rz), .ref ka, .ref wa, .int (nI (cn + 1))])), (ga, .inl (cB, 8192, .inl (g))), (ka, .inl (cI, 1100, .inl (fm_ins kd cn (D.length + 1) (nI (257))))), (wa, .inl (cI, 1100, .inl (fm_ins wd cn (D.length + 1) (fm_sc (fm_RB g) s0 7 (256 * (fm_AT (fm_RB g) 6 k 2 - 128) + fm_AT (fm_RB g) 6 k 3)))))] _ := hP
      have hD : va_D A [(h, .inr (4, [.int (th), .ref fa, .int (n0), .ref ga, .int (ld), .int (nI (s0)), .ref ra, .int (rz), .ref ka, .ref wa, .int (nI (cn + 1))])), (ga, .inl (cB, 8192, .inl (g))), (ka, .inl (cI, 1100, .inl (fm_ins kd cn (D.length + 1) (nI (257))))), (wa, .inl (cI, 1100, .inl (fm_ins wd cn (D.length + 1) (fm_sc (fm_RB g) s0 7 (256 * (fm_AT (fm_RB g) 6 k 2 - 128) + fm_AT (fm_RB g) 6 k 3)))))] := hD
      have e9 : (fm_stp (fm_RB g) s0 D (x :: r :: R)).1.length + (fm_stp (fm_RB g) s0 D (x :: r :: R)).2.length = cn + 1 := by rw [fm_stp_k hk (by omega)]; simp only [List.length_append, fm_c0, List.length_map, List.length_take, List.length_drop, List.length_cons, List.length_nil]; omega
      refine lv_iload_n hx hb d_MO_step_87 rfl (lv_at hl 4 rfl) ?_
      refine lv_iconst (v := nI (2)) hx hb d_MO_step_88 (by decide) ?_
      refine lv_iadd hx hb d_MO_step_89 ?_
      refine fm_tw (z := nI (D.length + 2)) (nI_add _ _) ?_
      exact W.iret hx hb hr (fun t ht hW => ⟨(fm_ins kd cn (D.length + 1) (nI (257)), fm_ins wd cn (D.length + 1) (fm_sc (fm_RB g) s0 7 (256 * (fm_AT (fm_RB g) 6 k 2 - 128) + fm_AT (fm_RB g) 6 k 3))), (by rw [fm_stp_k hk (by omega)]; have h8 := fm_RL_i1 hRL (cn := cn) (by rw [hcn]; rfl) 257 (fm_sc (fm_RB g) s0 7 (256 * (fm_AT (fm_RB g) 6 k 2 - 128) + fm_AT (fm_RB g) 6 k 3)); rw [show (D ++ [((x, 0) : Nat × Int32), (257, fm_sc (fm_RB g) s0 7 (256 * (fm_AT (fm_RB g) 6 k 2 - 128) + fm_AT (fm_RB g) 6 k 3))]) ++ fm_c0 (r :: R) = (D ++ [(x, 0)]) ++ (257, fm_sc (fm_RB g) s0 7 (256 * (fm_AT (fm_RB g) 6 k 2 - 128) + fm_AT (fm_RB g) 6 k 3)) :: fm_c0 (r :: R) by simp]; exact h8), congrArg (fun z => Outcome.returned (some (Value.int z))) (congrArg nI (by rw [fm_stp_k hk (by omega)]; simp)), by rw [ht]; exact show va_P (dC, dI) classes [(h, .inr (4, [.int (th), .ref fa, .int (n0), .ref ga, .int (ld), .int (nI (s0)), .ref ra, .int (rz), .ref ka, .ref wa, .int (nI ((fm_stp (fm_RB g) s0 D (x :: r :: R)).1.length + (fm_stp (fm_RB g) s0 D (x :: r :: R)).2.length))])), (ga, .inl (cB, 8192, .inl (g))), (ka, .inl (cI, 1100, .inl (fm_ins kd cn (D.length + 1) (nI (257))))), (wa, .inl (cI, 1100, .inl (fm_ins wd cn (D.length + 1) (fm_sc (fm_RB g) s0 7 (256 * (fm_AT (fm_RB g) 6 k 2 - 128) + fm_AT (fm_RB g) 6 k 3)))))] _ from (by rw [e9]; exact hP), hS.F ht⟩) hS.2.2 d_MO_step_90
  · have c_20 := c0
    have hno := fm_oI_lt (N := 65537) (fun {k} hk => by have h5 := fm_V_fd hV hxx hk; have h6 := fm_WD_le (fm_RB_lt g) 6; exact ⟨by omega, by decide⟩) (Int32.not_le.mp c_20)
    have e9 : (fm_stp (fm_RB g) s0 D (x :: r :: R)).1.length + (fm_stp (fm_RB g) s0 D (x :: r :: R)).2.length = cn := by rw [fm_stp_n hno]; simp only [List.length_append, fm_c0, List.length_map, List.length_take, List.length_drop, List.length_cons, List.length_nil]; omega
    refine lv_iload_n hx hb d_MO_step_23 rfl (lv_at hl 2 rfl) ?_
    refine lv_iconst (v := nI (1)) hx hb d_MO_step_24 (by decide) ?_
    refine lv_iadd hx hb d_MO_step_25 ?_
    refine fm_tw (z := nI (D.length + 1)) (nI_add _ _) ?_
    exact W.iret hx hb hr (fun t ht hW => ⟨(kd, wd), (by rw [fm_stp_n hno]; show fm_RL kd wd ((D ++ [(x, 0)]) ++ fm_c0 (r :: R)); rw [List.append_assoc]; exact hRL), congrArg (fun z => Outcome.returned (some (Value.int z))) (congrArg nI (by rw [fm_stp_n hno]; simp)), by rw [ht]; exact show va_P (dC, dI) classes [(h, .inr (4, [.int (th), .ref fa, .int (n0), .ref ga, .int (ld), .int (nI (s0)), .ref ra, .int (rz), .ref ka, .ref wa, .int (nI ((fm_stp (fm_RB g) s0 D (x :: r :: R)).1.length + (fm_stp (fm_RB g) s0 D (x :: r :: R)).2.length))])), (ga, .inl (cB, 8192, .inl (g))), (ka, .inl (cI, 1100, .inl (kd))), (wa, .inl (cI, 1100, .inl (wd)))] _ from (by rw [e9]; exact hP), hS.F ht⟩) hS.2.2 d_MO_step_26
