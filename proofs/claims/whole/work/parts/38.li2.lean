theorem d_LI_pass_0 : decode b_LI_pass 0 = .ok (.iconst 0, 1) := by decide +kernel
theorem d_LI_pass_1 : decode b_LI_pass 1 = .ok (.istore_n 2, 1) := by decide +kernel
theorem d_LI_pass_2 : decode b_LI_pass 2 = .ok (.iload_n 2, 1) := by decide +kernel
theorem d_LI_pass_3 : decode b_LI_pass 3 = .ok (.iload_n 1, 1) := by decide +kernel
theorem d_LI_pass_4 : decode b_LI_pass 4 = .ok (.if_icmp .ge 38, 3) := by decide +kernel
theorem d_LI_pass_7 : decode b_LI_pass 7 = .ok (.aload_n 0, 1) := by decide +kernel
theorem d_LI_pass_8 : decode b_LI_pass 8 = .ok (.iconst 0, 1) := by decide +kernel
theorem d_LI_pass_9 : decode b_LI_pass 9 = .ok (.invokevirtual 58, 3) := by decide +kernel
theorem d_LI_pass_12 : decode b_LI_pass 12 = .ok (.istore_n 3, 1) := by decide +kernel
theorem d_LI_pass_13 : decode b_LI_pass 13 = .ok (.aload_n 0, 1) := by decide +kernel
theorem d_LI_pass_14 : decode b_LI_pass 14 = .ok (.dup, 1) := by decide +kernel
theorem d_LI_pass_15 : decode b_LI_pass 15 = .ok (.getfield 22, 3) := by decide +kernel
theorem d_LI_pass_18 : decode b_LI_pass 18 = .ok (.iconst 1, 1) := by decide +kernel
theorem d_LI_pass_19 : decode b_LI_pass 19 = .ok (.isub, 1) := by decide +kernel
theorem d_LI_pass_20 : decode b_LI_pass 20 = .ok (.putfield 22, 3) := by decide +kernel
theorem d_LI_pass_23 : decode b_LI_pass 23 = .ok (.iload_n 3, 1) := by decide +kernel
theorem d_LI_pass_24 : decode b_LI_pass 24 = .ok (.sipush 256, 3) := by decide +kernel
theorem d_LI_pass_27 : decode b_LI_pass 27 = .ok (.if_icmp .eq 9, 3) := by decide +kernel
theorem d_LI_pass_30 : decode b_LI_pass 30 = .ok (.aload_n 0, 1) := by decide +kernel
theorem d_LI_pass_31 : decode b_LI_pass 31 = .ok (.iload_n 3, 1) := by decide +kernel
theorem d_LI_pass_32 : decode b_LI_pass 32 = .ok (.iconst 0, 1) := by decide +kernel
theorem d_LI_pass_33 : decode b_LI_pass 33 = .ok (.invokevirtual 69, 3) := by decide +kernel
theorem d_LI_pass_36 : decode b_LI_pass 36 = .ok (.iinc 2 1, 3) := by decide +kernel
theorem d_LI_pass_39 : decode b_LI_pass 39 = .ok (.goto (-37), 3) := by decide +kernel
theorem d_LI_pass_42 : decode b_LI_pass 42 = .ok (.return_, 1) := by decide +kernel
set_option maxHeartbeats 4000000 in
set_option maxRecDepth 100000 in
theorem c_LI_pass (l : Launch) (dC : Nat → ClassId) (dI : Nat → Nat → Nat) (q : Nat) (pa : Nat) (va : Nat) (na : Nat) (le : Nat) (co : Nat) (cI : ClassId) (cZ : ClassId) (pd : Nat → Int32) (vl : Nat → Int32) (kn : Nat → Int32) (T : List Nat) (L : List (Nat × Int32)) (n : Nat) (hPD : fm_PD pd T) (hle : le = T.length) (hCL : fm_CL vl kn L) (hco : co = L.length) (hn : n ≤ T.length) (hrm : L.length + T.length ≤ 1066) (h256 : ∀ c ∈ T, c ≤ 256) : fm_MX (S := (Nat → Int32) × (Nat → Int32)) l (dC, dI) y_LI_pass w_LI_pass ({ frames := 1, cells := 0, slots := 0, locals := 22 }) [.ref q, .int (nI (n))] [(q, .inr (2, [.ref pa, .ref va, .ref na, .int (nI (le)), .int (nI (co))])), (pa, .inl (cI, 1066, .inl (pd))), (va, .inl (cI, 1066, .inl (vl))), (na, .inl (cZ, 1066, .inl (kn)))] [(cI, .int), (cZ, .boolean)] (fun u => fm_CL u.1 u.2 (L ++ fm_its (fm_c0 (T.take n)))) (fun u => none) (fun u => [(q, .inr (2, [.ref pa, .ref va, .ref na, .int (nI (T.length - n)), .int (nI ((L ++ fm_its (fm_c0 (T.take n))).length))])), (pa, .inl (cI, 1066, .inl (pd))), (va, .inl (cI, 1066, .inl (u.1))), (na, .inl (cZ, 1066, .inl (u.2)))]) := by
  refine Met.ofW (cc := b_LI_pass) (maxL := 4) (ret := none) (by decide) rfl ?_
  intro pg ev s m args below meth cd s₁ BD hml hv
  obtain ⟨rfl, hP, hK, hD0⟩ := hv
  have hx := BD.exec
  have hb := BD.bytes
  have hr := BD.returns
  have hts := atoms_spec (ws := w_LI_pass) BD.pre
  have ht : ∀ w ∈ fm_T, w.before _ s = true := fun w h => hts w (List.mem_cons_of_mem _ h)
  have hown : s.vm.findClass R_LI = some m.cls := findClass_of_methodNamed BD.named
  have hlocks := BD.notSynchronized
  have S : CallFix pg m cd b_LI_pass 4 s _ w_LI_pass R_LI := ⟨hx, hb, hml, hown, hts⟩
  have hD := fm_selfD hD0
  generalize fm_A [(q, .inr (2, [.ref pa, .ref va, .ref na, .int (nI (le)), .int (nI (co))])), (pa, .inl (cI, 1066, .inl (pd))), (va, .inl (cI, 1066, .inl (vl))), (na, .inl (cZ, 1066, .inl (kn)))] = A at hD ⊢
  have hS : va_S A s.heap s.heap [] := va_S.rf
  have hl := lv_entry ([.ref q, .int (nI (n))]) (n := 4) (Nat.le_of_ble_eq_true rfl)
  rw [lg_entry_eq]
  generalize (lg_sl ([.ref q, .int (nI (n))]) ++ List.replicate (4 - (lg_sl ([.ref q, .int (nI (n))])).length) Slot.unset).toArray = ls at hl ⊢
  have hl : lv_has ls 4 [(0, .ref q), (1, .int (nI (n)))] := hl
  refine lv_iconst (v := nI (0)) hx hb d_LI_pass_0 (by decide) ?_
  refine lv_istore_n (lv' := [(2, .int (nI (0))), (0, .ref q), (1, .int (nI (n)))]) hx hb d_LI_pass_1 rfl hl (by decide) rfl (fun ls hl => ?_)
  refine fm_wloop3 (nL := 4) (LV := fun (i : Nat) (vl2 : Nat → Int32) (kn2 : Nat → Int32) => [(0, .ref q), (1, .int (nI (n))), (2, .int (nI (i)))]) (WS := fun (i : Nat) (vl2 : Nat → Int32) (kn2 : Nat → Int32) => [(q, .inr (2, [.ref pa, .ref va, .ref na, .int (nI (T.length - i)), .int (nI ((L ++ fm_its (fm_c0 (T.take i))).length))])), (pa, .inl (cI, 1066, .inl (pd))), (va, .inl (cI, 1066, .inl (vl2))), (na, .inl (cZ, 1066, .inl (kn2)))]) (I := fun (i : Nat) (vl2 : Nat → Int32) (kn2 : Nat → Int32) => i ≤ n ∧ fm_CL vl2 kn2 (L ++ fm_its (fm_c0 (T.take i)))) (μ := fun (i : Nat) (vl2 : Nat → Int32) (kn2 : Nat → Int32) => n - i) ?_ 0 vl kn (⟨Nat.zero_le _, by rw [List.take_zero, show fm_its (fm_c0 []) = [] from rfl, List.append_nil]; exact hCL⟩) (by rw [List.take_zero, show fm_its (fm_c0 []) = [] from rfl, List.append_nil, Nat.sub_zero, ← hle, ← hco]; exact hP) (by rw [List.take_zero, show fm_its (fm_c0 []) = [] from rfl, List.append_nil, Nat.sub_zero, ← hle, ← hco]; exact hD) hS ls (lv_sub hl [1, 2, 0] rfl)
  intro i vl2 kn2 hI_2 ih_2 H locs ls hP hD hS hl
  have hl : lv_has ls 4 [(0, .ref q), (1, .int (nI (n))), (2, .int (nI (i)))] := hl
  have hP : va_P (dC, dI) classes [(q, .inr (2, [.ref pa, .ref va, .ref na, .int (nI (T.length - i)), .int (nI ((L ++ fm_its (fm_c0 (T.take i))).length))])), (pa, .inl (cI, 1066, .inl (pd))), (va, .inl (cI, 1066, .inl (vl2))), (na, .inl (cZ, 1066, .inl (kn2)))] _ := hP
  have hD : va_D A [(q, .inr (2, [.ref pa, .ref va, .ref na, .int (nI (T.length - i)), .int (nI ((L ++ fm_its (fm_c0 (T.take i))).length))])), (pa, .inl (cI, 1066, .inl (pd))), (va, .inl (cI, 1066, .inl (vl2))), (na, .inl (cZ, 1066, .inl (kn2)))] := hD
  obtain ⟨hi, hCL2⟩ := hI_2
  have hln : (L ++ fm_its (fm_c0 (T.take i))).length ≤ L.length + i := by have h8 := fm_its_len (fm_c0 (T.take i)); rw [fm_c0_len, List.length_take] at h8; rw [List.length_append]; omega
  refine lv_iload_n hx hb d_LI_pass_2 rfl (lv_at hl 2 rfl) ?_
  refine lv_iload_n hx hb d_LI_pass_3 rfl (lv_at hl 1 rfl) ?_
  refine lv_icmp_ge (tgt := 42) hx hb d_LI_pass_4 (by decide) (fun c0 => ?_) (fun c0 => ?_)
  · have c_4 : n ≤ i := (nI_leI (a := n) (b := i) (by omega) (by omega)).mp c0
    have hin : i = n := by omega
    rw [hin] at hP hD hCL2
    exact W.vret hx hb hr (fun t ht hW => ⟨(vl2, kn2), (hCL2), rfl, by rw [ht]; exact hP, hS.F ht⟩) hS.2.2 d_LI_pass_42
  · have c_4 : ¬ (n ≤ i) := fun z => c0 ((nI_leI (a := n) (b := i) (by omega) (by omega)).mpr z)
    obtain ⟨x, hxi⟩ : ∃ x, T[i]? = some x := ⟨_, List.getElem?_eq_getElem (show i < T.length by omega)⟩
    have hpx := hPD i x hxi
    have hx256 := h256 x (List.mem_of_getElem? hxi)
    refine lv_aload_n hx hb d_LI_pass_7 rfl (lv_at hl 0 rfl) ?_
    refine lv_iconst (v := nI (0)) hx hb d_LI_pass_8 (by decide) ?_
    refine fm_cv S (c_LI_pendingAt l dC dI q pa va na (T.length - i) (nI ((L ++ fm_its (fm_c0 (T.take i))).length)) cI pd 0 (by omega) (by omega)) rfl rfl k_LI_pendingAt q_3_63 ⟨Nat.le_of_ble_eq_true rfl, Nat.le_of_ble_eq_true rfl⟩ (hP.sub [0, 1] rfl) (hK.sub [0] rfl) 0 rfl rfl rfl hl.1 rfl (Nat.le_of_ble_eq_true rfl) ⟨Nat.zero_le _, Nat.zero_le _⟩ d_LI_pass_9 ?_
    refine fm_tw (z := nI (x)) (by rw [show T.length - i - 1 - 0 = T.length - 1 - i by omega]; exact hpx) ?_
    refine lv_istore_n (lv' := [(3, .int (nI (x))), (0, .ref q), (1, .int (nI (n))), (2, .int (nI (i)))]) hx hb d_LI_pass_12 rfl hl (by decide) rfl (fun ls hl => ?_)
    refine lv_aload_n hx hb d_LI_pass_13 rfl (lv_at hl 1 rfl) ?_
    refine lv_dup hx hb d_LI_pass_14 rfl ?_
    refine va_get (D := (dC, dI)) (ci := 2) (v := .int (nI (T.length - i))) (C := R_LI) (T := F_LI) (N := 5) hx hb ht i_LI hown hK hP 0 rfl rfl 3 (by decide) (ht _ q_1_48) (fun _ h9 => h9) rfl d_LI_pass_15 ?_
    refine lv_iconst (v := nI (1)) hx hb d_LI_pass_18 (by decide) ?_
    refine lv_isub hx hb d_LI_pass_19 ?_
    refine fm_tw (z := nI (T.length - i - 1)) (pk_sub (by omega)) ?_
    refine va_put (D := (dC, dI)) (ci := 2) (v := .int (nI (T.length - i - 1))) (ty := .int) (C := R_LI) (T := F_LI) (N := 5) hx hb ht i_LI t_LI t_LI_ok n_LI hown hK hP hD hS 0 rfl rfl 3 (by decide) (ht _ q_1_48) (fun _ h9 => h9) rfl (by decide +kernel) (rfl) (rfl) (Nat.le_of_ble_eq_true rfl) d_LI_pass_20 (fun H locs hP hD hS => ?_)
    have hP : va_P (dC, dI) classes [(q, .inr (2, [.ref pa, .ref va, .ref na, .int (nI (T.length - i - 1)), .int (nI ((L ++ fm_its (fm_c0 (T.take i))).length))])), (pa, .inl (cI, 1066, .inl (pd))), (va, .inl (cI, 1066, .inl (vl2))), (na, .inl (cZ, 1066, .inl (kn2)))] _ := hP
    have hD : va_D A [(q, .inr (2, [.ref pa, .ref va, .ref na, .int (nI (T.length - i - 1)), .int (nI ((L ++ fm_its (fm_c0 (T.take i))).length))])), (pa, .inl (cI, 1066, .inl (pd))), (va, .inl (cI, 1066, .inl (vl2))), (na, .inl (cZ, 1066, .inl (kn2)))] := hD
    refine lv_iload_n hx hb d_LI_pass_23 rfl (lv_at hl 0 rfl) ?_
    refine lv_sipush (v := nI (256)) hx hb d_LI_pass_24 (by decide) ?_
    refine lv_icmp_eq (tgt := 36) hx hb d_LI_pass_27 (by decide) (fun c0 => ?_) (fun c0 => ?_)
    · have c_27 : x = 256 := (nI_eq (a := x) (b := 256) (by omega) (by omega)).mp c0
      have eL : (L ++ fm_its (fm_c0 (T.take (i + 1)))).length = (L ++ fm_its (fm_c0 (T.take i))).length := by rw [fm_its_take hxi]; first | (rw [fm_its_none c_27, List.append_nil]; done) | (rw [fm_its_one c_27]; simp only [List.length_append, List.length_cons, List.length_nil]; omega)
      have eT : T.length - i - 1 = T.length - (i + 1) := by omega
      rw [eT, ← eL] at hP hD
      refine lv_iinc (v := nI (i + 1)) (lv' := [(2, .int (nI (i + 1))), (3, .int (nI (x))), (0, .ref q), (1, .int (nI (n)))]) hx hb d_LI_pass_36 hl (k := 3) rfl (nI_1 _) (by decide) rfl (fun ls hl => ?_)
      refine lv_goto (tgt := 2) hx hb d_LI_pass_39 (by decide) ?_
      exact ih_2 (i + 1) vl2 kn2 H locs ls (by first | exact ⟨by omega, by rw [fm_its_take hxi, fm_its_none c_27, List.append_nil]; exact hCL2⟩ | exact ⟨by omega, by rw [fm_its_take hxi, fm_its_one c_27, ← List.append_assoc]; exact fm_CL_app hCL2 (x, 0) (by rw [if_neg (show ¬ x = 257 by omega)]) (decide_eq_false (show ¬ x = 257 by omega)).symm⟩) (by omega) hP hD hS (lv_sub hl [2, 3, 0] rfl)
    · have c_27 : ¬ (x = 256) := fun z => c0 ((nI_eq (a := x) (b := 256) (by omega) (by omega)).mpr z)
      refine lv_aload_n hx hb d_LI_pass_30 rfl (lv_at hl 1 rfl) ?_
      refine lv_iload_n hx hb d_LI_pass_31 rfl (lv_at hl 0 rfl) ?_
      refine lv_iconst (v := nI (0)) hx hb d_LI_pass_32 (by decide) ?_
      refine fm_wv S (c_LI_append l dC dI q pa va na (nI (T.length - i - 1)) ((L ++ fm_its (fm_c0 (T.take i))).length) cI cZ vl2 kn2 (nI (x)) false (by omega)) rfl rfl k_LI_append q_3_72 ⟨Nat.le_of_ble_eq_true rfl, Nat.le_of_ble_eq_true rfl⟩ hP hD hS (hK.sub [0, 1] rfl) [0, 2, 3] (by decide) rfl 0 rfl rfl rfl hl.1 rfl (Nat.le_of_ble_eq_true rfl) ⟨Nat.zero_le _, Nat.zero_le _⟩ d_LI_pass_33 [(q, .inr (2, [.ref pa, .ref va, .ref na, .int (nI (T.length - i - 1)), .int (nI (((L ++ fm_its (fm_c0 (T.take i))).length) + 1))])), (pa, .inl (cI, 1066, .inl (pd))), (va, .inl (cI, 1066, .inl (upd vl2 ((L ++ fm_its (fm_c0 (T.take i))).length) (nI (x))))), (na, .inl (cZ, 1066, .inl (upd kn2 ((L ++ fm_its (fm_c0 (T.take i))).length) (fm_bI false))))] [1] rfl rfl (show ∀ i, i < 4 → i ∈ ([0, 2, 3] : List Nat) ∨ i ∈ ([1] : List Nat) by decide) (by decide) rfl (fun H locs hP hD hS => ?_)
      have hP : va_P (dC, dI) classes [(q, .inr (2, [.ref pa, .ref va, .ref na, .int (nI (T.length - i - 1)), .int (nI (((L ++ fm_its (fm_c0 (T.take i))).length) + 1))])), (pa, .inl (cI, 1066, .inl (pd))), (va, .inl (cI, 1066, .inl (upd vl2 ((L ++ fm_its (fm_c0 (T.take i))).length) (nI (x))))), (na, .inl (cZ, 1066, .inl (upd kn2 ((L ++ fm_its (fm_c0 (T.take i))).length) (fm_bI false))))] _ := hP
      have hD : va_D A [(q, .inr (2, [.ref pa, .ref va, .ref na, .int (nI (T.length - i - 1)), .int (nI (((L ++ fm_its (fm_c0 (T.take i))).length) + 1))])), (pa, .inl (cI, 1066, .inl (pd))), (va, .inl (cI, 1066, .inl (upd vl2 ((L ++ fm_its (fm_c0 (T.take i))).length) (nI (x))))), (na, .inl (cZ, 1066, .inl (upd kn2 ((L ++ fm_its (fm_c0 (T.take i))).length) (fm_bI false))))] := hD
      have eL : (L ++ fm_its (fm_c0 (T.take (i + 1)))).length = ((L ++ fm_its (fm_c0 (T.take i))).length) + 1 := by rw [fm_its_take hxi]; first | (rw [fm_its_none c_27, List.append_nil]; done) | (rw [fm_its_one c_27]; simp only [List.length_append, List.length_cons, List.length_nil]; omega)
      have eT : T.length - i - 1 = T.length - (i + 1) := by omega
      rw [eT, ← eL] at hP hD
      refine lv_iinc (v := nI (i + 1)) (lv' := [(2, .int (nI (i + 1))), (3, .int (nI (x))), (0, .ref q), (1, .int (nI (n)))]) hx hb d_LI_pass_36 hl (k := 3) rfl (nI_1 _) (by decide) rfl (fun ls hl => ?_)
      refine lv_goto (tgt := 2) hx hb d_LI_pass_39 (by decide) ?_
      exact ih_2 (i + 1) (upd vl2 ((L ++ fm_its (fm_c0 (T.take i))).length) (nI (x))) (upd kn2 ((L ++ fm_its (fm_c0 (T.take i))).length) (fm_bI false)) H locs ls (by first | exact ⟨by omega, by rw [fm_its_take hxi, fm_its_none c_27, List.append_nil]; exact hCL2⟩ | exact ⟨by omega, by rw [fm_its_take hxi, fm_its_one c_27, ← List.append_assoc]; exact fm_CL_app hCL2 (x, 0) (by rw [if_neg (show ¬ x = 257 by omega)]) (decide_eq_false (show ¬ x = 257 by omega)).symm⟩) (by omega) hP hD hS (lv_sub hl [2, 3, 0] rfl)
theorem d_LI_join_0 : decode b_LI_join 0 = .ok (.iload_n 3, 1) := by decide +kernel
theorem d_LI_join_1 : decode b_LI_join 1 = .ok (.bipush 8, 2) := by decide +kernel
theorem d_LI_join_3 : decode b_LI_join 3 = .ok (.ishr, 1) := by decide +kernel
theorem d_LI_join_4 : decode b_LI_join 4 = .ok (.istore 4, 2) := by decide +kernel
theorem d_LI_join_6 : decode b_LI_join 6 = .ok (.aload_n 0, 1) := by decide +kernel
theorem d_LI_join_7 : decode b_LI_join 7 = .ok (.dup, 1) := by decide +kernel
theorem d_LI_join_8 : decode b_LI_join 8 = .ok (.getfield 22, 3) := by decide +kernel
theorem d_LI_join_11 : decode b_LI_join 11 = .ok (.iconst 2, 1) := by decide +kernel
theorem d_LI_join_12 : decode b_LI_join 12 = .ok (.isub, 1) := by decide +kernel
theorem d_LI_join_13 : decode b_LI_join 13 = .ok (.putfield 22, 3) := by decide +kernel
theorem d_LI_join_16 : decode b_LI_join 16 = .ok (.iload 4, 2) := by decide +kernel
theorem d_LI_join_18 : decode b_LI_join 18 = .ok (.iconst 2, 1) := by decide +kernel
theorem d_LI_join_19 : decode b_LI_join 19 = .ok (.irem, 1) := by decide +kernel
theorem d_LI_join_20 : decode b_LI_join 20 = .ok (.iconst 1, 1) := by decide +kernel
theorem d_LI_join_21 : decode b_LI_join 21 = .ok (.if_icmp .ne 8, 3) := by decide +kernel
theorem d_LI_join_24 : decode b_LI_join 24 = .ok (.aload_n 0, 1) := by decide +kernel
theorem d_LI_join_25 : decode b_LI_join 25 = .ok (.iload_n 2, 1) := by decide +kernel
theorem d_LI_join_26 : decode b_LI_join 26 = .ok (.invokevirtual 35, 3) := by decide +kernel
theorem d_LI_join_29 : decode b_LI_join 29 = .ok (.aload_n 0, 1) := by decide +kernel
theorem d_LI_join_30 : decode b_LI_join 30 = .ok (.iload_n 3, 1) := by decide +kernel
theorem d_LI_join_31 : decode b_LI_join 31 = .ok (.sipush 255, 3) := by decide +kernel
theorem d_LI_join_34 : decode b_LI_join 34 = .ok (.iand, 1) := by decide +kernel
theorem d_LI_join_35 : decode b_LI_join 35 = .ok (.invokevirtual 35, 3) := by decide +kernel
theorem d_LI_join_38 : decode b_LI_join 38 = .ok (.iload 4, 2) := by decide +kernel
theorem d_LI_join_40 : decode b_LI_join 40 = .ok (.iconst 2, 1) := by decide +kernel
theorem d_LI_join_41 : decode b_LI_join 41 = .ok (.idiv, 1) := by decide +kernel
theorem d_LI_join_42 : decode b_LI_join 42 = .ok (.iconst 2, 1) := by decide +kernel
theorem d_LI_join_43 : decode b_LI_join 43 = .ok (.irem, 1) := by decide +kernel
theorem d_LI_join_44 : decode b_LI_join 44 = .ok (.iconst 1, 1) := by decide +kernel
theorem d_LI_join_45 : decode b_LI_join 45 = .ok (.if_icmp .ne 8, 3) := by decide +kernel
theorem d_LI_join_48 : decode b_LI_join 48 = .ok (.aload_n 0, 1) := by decide +kernel
theorem d_LI_join_49 : decode b_LI_join 49 = .ok (.iload_n 1, 1) := by decide +kernel
theorem d_LI_join_50 : decode b_LI_join 50 = .ok (.invokevirtual 35, 3) := by decide +kernel
theorem d_LI_join_53 : decode b_LI_join 53 = .ok (.aload_n 0, 1) := by decide +kernel
theorem d_LI_join_54 : decode b_LI_join 54 = .ok (.iload 4, 2) := by decide +kernel
theorem d_LI_join_56 : decode b_LI_join 56 = .ok (.iconst 4, 1) := by decide +kernel
theorem d_LI_join_57 : decode b_LI_join 57 = .ok (.idiv, 1) := by decide +kernel
theorem d_LI_join_58 : decode b_LI_join 58 = .ok (.aload_n 0, 1) := by decide +kernel
theorem d_LI_join_59 : decode b_LI_join 59 = .ok (.getfield 22, 3) := by decide +kernel
theorem d_LI_join_62 : decode b_LI_join 62 = .ok (.iconst 1, 1) := by decide +kernel
theorem d_LI_join_63 : decode b_LI_join 63 = .ok (.isub, 1) := by decide +kernel
theorem d_LI_join_64 : decode b_LI_join 64 = .ok (.invokestatic 39, 3) := by decide +kernel
theorem d_LI_join_67 : decode b_LI_join 67 = .ok (.invokevirtual 55, 3) := by decide +kernel
theorem d_LI_join_70 : decode b_LI_join 70 = .ok (.return_, 1) := by decide +kernel
set_option maxHeartbeats 4000000 in
set_option maxRecDepth 100000 in
theorem c_LI_join (l : Launch) (dC : Nat → ClassId) (dI : Nat → Nat → Nat) (q : Nat) (pa : Nat) (va : Nat) (na : Nat) (le : Nat) (co : Nat) (cI : ClassId) (cZ : ClassId) (pd : Nat → Int32) (vl : Nat → Int32) (kn : Nat → Int32) (L : List (Nat × Int32)) (x : Nat) (r : Nat) (R : List Nat) (op : Nat) (z : Nat) (hPR : fm_PD pd R) (hle : le = R.length + 2) (hCL : fm_CL vl kn L) (hco : co = L.length) (hrm : L.length + R.length + 3 ≤ 1066) (hxR : ∀ c ∈ (x :: r :: R), c ≤ 256) (hop : op < 128) (hz : z < 256) : fm_MX (S := (Nat → Int32) × (Nat → Int32) × (Nat → Int32)) l (dC, dI) y_LI_join w_LI_join ({ frames := 2, cells := 0, slots := 0, locals := 45 }) [.ref q, .int (nI (x)), .int (nI (r)), .int (nI (256 * op + z))] [(q, .inr (2, [.ref pa, .ref va, .ref na, .int (nI (le)), .int (nI (co))])), (pa, .inl (cI, 1066, .inl (pd))), (va, .inl (cI, 1066, .inl (vl))), (na, .inl (cZ, 1066, .inl (kn)))] [(cI, .int), (cZ, .boolean)] (fun u => fm_PD u.1 ((fm_new op z x r R).drop (min (op / 4) ((fm_new op z x r R).length - 1))) ∧ fm_CL u.2.1 u.2.2 (L ++ fm_its (fm_c0 ((fm_new op z x r R).take (min (op / 4) ((fm_new op z x r R).length - 1)))))) (fun u => none) (fun u => [(q, .inr (2, [.ref pa, .ref va, .ref na, .int (nI ((fm_new op z x r R).length - (min (op / 4) ((fm_new op z x r R).length - 1)))), .int (nI ((L ++ fm_its (fm_c0 ((fm_new op z x r R).take (min (op / 4) ((fm_new op z x r R).length - 1))))).length))])), (pa, .inl (cI, 1066, .inl (u.1))), (va, .inl (cI, 1066, .inl (u.2.1))), (na, .inl (cZ, 1066, .inl (u.2.2)))]) := by
  refine Met.ofW (cc := b_LI_join) (maxL := 5) (ret := none) (by decide) rfl ?_
  intro pg ev s m args below meth cd s₁ BD hml hv
  obtain ⟨rfl, hP, hK, hD0⟩ := hv
  have hx := BD.exec
  have hb := BD.bytes
  have hr := BD.returns
  have hts := atoms_spec (ws := w_LI_join) BD.pre
  have ht : ∀ w ∈ fm_T, w.before _ s = true := fun w h => hts w (List.mem_cons_of_mem _ h)
  have hown : s.vm.findClass R_LI = some m.cls := findClass_of_methodNamed BD.named
  have hlocks := BD.notSynchronized
  have S : CallFix pg m cd b_LI_join 5 s _ w_LI_join R_LI := ⟨hx, hb, hml, hown, hts⟩
  have hD := fm_selfD hD0
  generalize fm_A [(q, .inr (2, [.ref pa, .ref va, .ref na, .int (nI (le)), .int (nI (co))])), (pa, .inl (cI, 1066, .inl (pd))), (va, .inl (cI, 1066, .inl (vl))), (na, .inl (cZ, 1066, .inl (kn)))] = A at hD ⊢
  have hS : va_S A s.heap s.heap [] := va_S.rf
  have hl := lv_entry ([.ref q, .int (nI (x)), .int (nI (r)), .int (nI (256 * op + z))]) (n := 5) (Nat.le_of_ble_eq_true rfl)
  rw [lg_entry_eq]
  generalize (lg_sl ([.ref q, .int (nI (x)), .int (nI (r)), .int (nI (256 * op + z))]) ++ List.replicate (5 - (lg_sl ([.ref q, .int (nI (x)), .int (nI (r)), .int (nI (256 * op + z))])).length) Slot.unset).toArray = ls at hl ⊢
  have hl : lv_has ls 5 [(0, .ref q), (1, .int (nI (x))), (2, .int (nI (r))), (3, .int (nI (256 * op + z)))] := hl
  have hx256 := hxR x (by simp)
  have hr256 := hxR r (by simp)
  refine lv_iload_n hx hb d_LI_join_0 rfl (lv_at hl 3 rfl) ?_
  refine lv_bipush (v := nI (8)) hx hb d_LI_join_1 (by decide) ?_
  refine lv_ishr hx hb d_LI_join_3 ?_
  refine fm_tw (z := nI (op)) (by rw [pk_shrN (by omega) (nI 8 &&& 31) 8 (by decide)]; exact congrArg nI (by omega)) ?_
  refine lv_istore (lv' := [(4, .int (nI (op))), (0, .ref q), (1, .int (nI (x))), (2, .int (nI (r))), (3, .int (nI (256 * op + z)))]) hx hb d_LI_join_4 hl (by decide) rfl (fun ls hl => ?_)
  refine lv_aload_n hx hb d_LI_join_6 rfl (lv_at hl 1 rfl) ?_
  refine lv_dup hx hb d_LI_join_7 rfl ?_
  refine va_get (D := (dC, dI)) (ci := 2) (v := .int (nI (le))) (C := R_LI) (T := F_LI) (N := 5) hx hb ht i_LI hown hK hP 0 rfl rfl 3 (by decide) (ht _ q_1_48) (fun _ h9 => h9) rfl d_LI_join_8 ?_
  refine lv_iconst (v := nI (2)) hx hb d_LI_join_11 (by decide) ?_
  refine lv_isub hx hb d_LI_join_12 ?_
  refine fm_tw (z := nI (R.length)) (by rw [hle]; exact pk_sub (b := 2) (by omega)) ?_
  refine va_put (D := (dC, dI)) (ci := 2) (v := .int (nI (R.length))) (ty := .int) (C := R_LI) (T := F_LI) (N := 5) hx hb ht i_LI t_LI t_LI_ok n_LI hown hK hP hD hS 0 rfl rfl 3 (by decide) (ht _ q_1_48) (fun _ h9 => h9) rfl (by decide +kernel) (rfl) (rfl) (Nat.le_of_ble_eq_true rfl) d_LI_join_13 (fun H locs hP hD hS => ?_)
  have hP : va_P (dC, dI) classes [(q, .inr (2, [.ref pa, .ref va, .ref na, .int (nI (R.length)), .int (nI (co))])), (pa, .inl (cI, 1066, .inl (pd))), (va, .inl (cI, 1066, .inl (vl))), (na, .inl (cZ, 1066, .inl (kn)))] _ := hP
  have hD : va_D A [(q, .inr (2, [.ref pa, .ref va, .ref na, .int (nI (R.length)), .int (nI (co))])), (pa, .inl (cI, 1066, .inl (pd))), (va, .inl (cI, 1066, .inl (vl))), (na, .inl (cZ, 1066, .inl (kn)))] := hD
  refine lv_iload hx hb d_LI_join_16 (lv_at hl 0 rfl) ?_
  refine lv_iconst (v := nI (2)) hx hb d_LI_join_18 (by decide) ?_
  refine lv_irem hx hb d_LI_join_19 (by decide) ?_
  refine fm_tw (z := nI (op % 2)) (pk_rem (by omega) (by omega) (by omega)) ?_
  refine lv_iconst (v := nI (1)) hx hb d_LI_join_20 (by decide) ?_
  refine lv_icmp_ne (tgt := 29) hx hb d_LI_join_21 (by decide) (fun c0 => ?_) (fun c0 => ?_)
  · have c_21 : ¬ (op % 2 = 1) := fun z => c0 ((nI_eq (a := op % 2) (b := 1) (by omega) (by omega)).mpr z)
    refine lv_aload_n hx hb d_LI_join_29 rfl (lv_at hl 1 rfl) ?_
    refine lv_iload_n hx hb d_LI_join_30 rfl (lv_at hl 4 rfl) ?_
    refine lv_sipush (v := nI (255)) hx hb d_LI_join_31 (by decide) ?_
    refine lv_iand hx hb d_LI_join_34 ?_
    refine fm_tw (z := nI (z)) (by rw [show nI 255 = 255 from rfl, pk_andN (by omega) 8 (by decide)]; exact congrArg nI (by omega)) ?_
    refine fm_wv S (c_LI_push l dC dI q pa va na R.length (nI (co)) cI pd (nI (z)) (by omega)) rfl rfl k_LI_push q_3_49 ⟨Nat.le_of_ble_eq_true rfl, Nat.le_of_ble_eq_true rfl⟩ hP hD hS (hK.sub [0] rfl) [0, 1] (by decide) rfl 0 rfl rfl rfl hl.1 rfl (Nat.le_of_ble_eq_true rfl) ⟨Nat.zero_le _, Nat.zero_le _⟩ d_LI_join_35 [(q, .inr (2, [.ref pa, .ref va, .ref na, .int (nI (R.length + 1)), .int (nI (co))])), (pa, .inl (cI, 1066, .inl (upd pd R.length (nI (z))))), (va, .inl (cI, 1066, .inl (vl))), (na, .inl (cZ, 1066, .inl (kn)))] [2, 3] rfl rfl (show ∀ i, i < 4 → i ∈ ([0, 1] : List Nat) ∨ i ∈ ([2, 3] : List Nat) by decide) (by decide) rfl (fun H locs hP hD hS => ?_)
    have hP : va_P (dC, dI) classes [(q, .inr (2, [.ref pa, .ref va, .ref na, .int (nI (R.length + 1)), .int (nI (co))])), (pa, .inl (cI, 1066, .inl (upd pd R.length (nI (z))))), (va, .inl (cI, 1066, .inl (vl))), (na, .inl (cZ, 1066, .inl (kn)))] _ := hP
    have hD : va_D A [(q, .inr (2, [.ref pa, .ref va, .ref na, .int (nI (R.length + 1)), .int (nI (co))])), (pa, .inl (cI, 1066, .inl (upd pd R.length (nI (z))))), (va, .inl (cI, 1066, .inl (vl))), (na, .inl (cZ, 1066, .inl (kn)))] := hD
    refine lv_iload hx hb d_LI_join_38 (lv_at hl 0 rfl) ?_
    refine lv_iconst (v := nI (2)) hx hb d_LI_join_40 (by decide) ?_
    refine lv_idiv hx hb d_LI_join_41 (by decide) ?_
    refine fm_tw (z := nI (op / 2)) (pk_div (by omega) (by omega) (by omega)) ?_
    refine lv_iconst (v := nI (2)) hx hb d_LI_join_42 (by decide) ?_
    refine lv_irem hx hb d_LI_join_43 (by decide) ?_
    refine fm_tw (z := nI ((op / 2) % 2)) (pk_rem (by omega) (by omega) (by omega)) ?_
    refine lv_iconst (v := nI (1)) hx hb d_LI_join_44 (by decide) ?_
    refine lv_icmp_ne (tgt := 53) hx hb d_LI_join_45 (by decide) (fun c0 => ?_) (fun c0 => ?_)
    · have c_45 : ¬ ((op / 2) % 2 = 1) := fun z => c0 ((nI_eq (a := (op / 2) % 2) (b := 1) (by omega) (by omega)).mpr z)
      have hPN : fm_PD (upd pd R.length (nI (z))) (fm_new op z x r R) := by first | (unfold fm_new; rw [if_pos c_45, if_pos c_21]; exact fm_PD_push (fm_PD_push (fm_PD_push hPR r) z) x) | (unfold fm_new; rw [if_pos c_45, if_neg c_21]; exact fm_PD_push (fm_PD_push hPR z) x) | (unfold fm_new; rw [if_neg c_45, if_pos c_21]; exact fm_PD_push (fm_PD_push hPR r) z) | (unfold fm_new; rw [if_neg c_45, if_neg c_21]; exact fm_PD_push hPR z)
      have hNl : (fm_new op z x r R).length = R.length + 1 := by first | (unfold fm_new; rw [if_pos c_45, if_pos c_21]; simp) | (unfold fm_new; rw [if_pos c_45, if_neg c_21]; simp) | (unfold fm_new; rw [if_neg c_45, if_pos c_21]; simp) | (unfold fm_new; rw [if_neg c_45, if_neg c_21]; simp)
      rw [← hNl] at hP hD
      refine lv_aload_n hx hb d_LI_join_53 rfl (lv_at hl 1 rfl) ?_
      refine lv_iload hx hb d_LI_join_54 (lv_at hl 0 rfl) ?_
      refine lv_iconst (v := nI (4)) hx hb d_LI_join_56 (by decide) ?_
      refine lv_idiv hx hb d_LI_join_57 (by decide) ?_
      refine fm_tw (z := nI (op / 4)) (pk_div (by omega) (by omega) (by omega)) ?_
      refine lv_aload_n hx hb d_LI_join_58 rfl (lv_at hl 1 rfl) ?_
      refine va_get (D := (dC, dI)) (ci := 2) (v := .int (nI ((fm_new op z x r R).length))) (C := R_LI) (T := F_LI) (N := 5) hx hb ht i_LI hown hK hP 0 rfl rfl 3 (by decide) (ht _ q_1_48) (fun _ h9 => h9) rfl d_LI_join_59 ?_
      refine lv_iconst (v := nI (1)) hx hb d_LI_join_62 (by decide) ?_
      refine lv_isub hx hb d_LI_join_63 ?_
      refine fm_tw (z := nI ((fm_new op z x r R).length - 1)) (pk_sub (by omega)) ?_
      refine va_mmin hx hb (by rw [hml]; exact hl.1.symm) hown (ht _ q_3_53) (ht _ q_2_34) (ht _ q_1_10) (ht _ q_2_35) (Nat.le_of_ble_eq_true rfl) (Nat.le_of_ble_eq_true rfl) (Nat.zero_le _) (Nat.zero_le _) d_LI_join_64 ?_
      refine fm_tw (z := nI ((min (op / 4) ((fm_new op z x r R).length - 1)))) (fm_minI (by omega) (by have h9 := fm_new_len op z x r R; omega)) ?_
      refine fm_xv S (c_LI_pass l dC dI q pa va na ((fm_new op z x r R).length) co cI cZ (upd pd R.length (nI (z))) vl kn ((fm_new op z x r R)) L ((min (op / 4) ((fm_new op z x r R).length - 1))) (hPN) (rfl) (hCL) (hco) (by omega) (by have h9 := fm_new_len op z x r R; omega) (fm_new_256 hxR (by omega))) rfl rfl k_LI_pass q_3_68 ⟨Nat.le_of_ble_eq_true rfl, Nat.le_of_ble_eq_true rfl⟩ hP hD hS (hK.sub [0, 1] rfl) [0, 1, 2, 3] (by decide) rfl 0 rfl rfl rfl hl.1 rfl (Nat.le_of_ble_eq_true rfl) ⟨Nat.zero_le _, Nat.zero_le _⟩ d_LI_join_67 (fun u => [(q, .inr (2, [.ref pa, .ref va, .ref na, .int (nI (((fm_new op z x r R)).length - ((min (op / 4) ((fm_new op z x r R).length - 1))))), .int (nI ((L ++ fm_its (fm_c0 (((fm_new op z x r R)).take ((min (op / 4) ((fm_new op z x r R).length - 1)))))).length))])), (pa, .inl (cI, 1066, .inl ((upd pd R.length (nI (z)))))), (va, .inl (cI, 1066, .inl (u.1))), (na, .inl (cZ, 1066, .inl (u.2)))]) [] (fun _ => rfl) (fun _ => rfl) (fun _ => show ∀ i, i < 4 → i ∈ ([0, 1, 2, 3] : List Nat) ∨ i ∈ ([] : List Nat) by decide) (by decide) (fun _ => rfl) (fun u hu H locs hP hD hS => ?_)
      obtain ⟨vl2, kn2⟩ := u
      have hu_67 : fm_CL vl2 kn2 (L ++ fm_its (fm_c0 (((fm_new op z x r R)).take ((min (op / 4) ((fm_new op z x r R).length - 1)))))) := hu
      have hP : va_P (dC, dI) classes [(q, .inr (2, [.ref pa, .ref va, .ref na, .int (nI (((fm_new op z x r R)).length - ((min (op / 4) ((fm_new op z x r R).length - 1))))), .int (nI ((L ++ fm_its (fm_c0 (((fm_new op z x r R)).take ((min (op / 4) ((fm_new op z x r R).length - 1)))))).length))])), (pa, .inl (cI, 1066, .inl ((upd pd R.length (nI (z)))))), (va, .inl (cI, 1066, .inl (vl2))), (na, .inl (cZ, 1066, .inl (kn2)))] _ := hP
      have hD : va_D A [(q, .inr (2, [.ref pa, .ref va, .ref na, .int (nI (((fm_new op z x r R)).length - ((min (op / 4) ((fm_new op z x r R).length - 1))))), .int (nI ((L ++ fm_its (fm_c0 (((fm_new op z x r R)).take ((min (op / 4) ((fm_new op z x r R).length - 1)))))).length))])), (pa, .inl (cI, 1066, .inl ((upd pd R.length (nI (z)))))), (va, .inl (cI, 1066, .inl (vl2))), (na, .inl (cZ, 1066, .inl (kn2)))] := hD
      exact W.vret hx hb hr (fun t ht hW => ⟨((upd pd R.length (nI (z))), vl2, kn2), (⟨fm_PD_drop hPN _, hu_67⟩), rfl, by rw [ht]; exact hP, hS.F ht⟩) hS.2.2 d_LI_join_70
    · have c_45 : (op / 2) % 2 = 1 := (nI_eq (a := (op / 2) % 2) (b := 1) (by omega) (by omega)).mp c0
      refine lv_aload_n hx hb d_LI_join_48 rfl (lv_at hl 1 rfl) ?_
      refine lv_iload_n hx hb d_LI_join_49 rfl (lv_at hl 2 rfl) ?_
      refine fm_wv S (c_LI_push l dC dI q pa va na (R.length + 1) (nI (co)) cI (upd pd R.length (nI (z))) (nI (x)) (by omega)) rfl rfl k_LI_push q_3_49 ⟨Nat.le_of_ble_eq_true rfl, Nat.le_of_ble_eq_true rfl⟩ hP hD hS (hK.sub [0] rfl) [0, 1] (by decide) rfl 0 rfl rfl rfl hl.1 rfl (Nat.le_of_ble_eq_true rfl) ⟨Nat.zero_le _, Nat.zero_le _⟩ d_LI_join_50 [(q, .inr (2, [.ref pa, .ref va, .ref na, .int (nI ((R.length + 1) + 1)), .int (nI (co))])), (pa, .inl (cI, 1066, .inl (upd (upd pd R.length (nI (z))) (R.length + 1) (nI (x))))), (va, .inl (cI, 1066, .inl (vl))), (na, .inl (cZ, 1066, .inl (kn)))] [2, 3] rfl rfl (show ∀ i, i < 4 → i ∈ ([0, 1] : List Nat) ∨ i ∈ ([2, 3] : List Nat) by decide) (by decide) rfl (fun H locs hP hD hS => ?_)
      have hP : va_P (dC, dI) classes [(q, .inr (2, [.ref pa, .ref va, .ref na, .int (nI ((R.length + 1) + 1)), .int (nI (co))])), (pa, .inl (cI, 1066, .inl (upd (upd pd R.length (nI (z))) (R.length + 1) (nI (x))))), (va, .inl (cI, 1066, .inl (vl))), (na, .inl (cZ, 1066, .inl (kn)))] _ := hP
      have hD : va_D A [(q, .inr (2, [.ref pa, .ref va, .ref na, .int (nI ((R.length + 1) + 1)), .int (nI (co))])), (pa, .inl (cI, 1066, .inl (upd (upd pd R.length (nI (z))) (R.length + 1) (nI (x))))), (va, .inl (cI, 1066, .inl (vl))), (na, .inl (cZ, 1066, .inl (kn)))] := hD
      have hPN : fm_PD (upd (upd pd R.length (nI (z))) (R.length + 1) (nI (x))) (fm_new op z x r R) := by first | (unfold fm_new; rw [if_pos c_45, if_pos c_21]; exact fm_PD_push (fm_PD_push (fm_PD_push hPR r) z) x) | (unfold fm_new; rw [if_pos c_45, if_neg c_21]; exact fm_PD_push (fm_PD_push hPR z) x) | (unfold fm_new; rw [if_neg c_45, if_pos c_21]; exact fm_PD_push (fm_PD_push hPR r) z) | (unfold fm_new; rw [if_neg c_45, if_neg c_21]; exact fm_PD_push hPR z)
      have hNl : (fm_new op z x r R).length = (R.length + 1) + 1 := by first | (unfold fm_new; rw [if_pos c_45, if_pos c_21]; simp) | (unfold fm_new; rw [if_pos c_45, if_neg c_21]; simp) | (unfold fm_new; rw [if_neg c_45, if_pos c_21]; simp) | (unfold fm_new; rw [if_neg c_45, if_neg c_21]; simp)
      rw [← hNl] at hP hD
      refine lv_aload_n hx hb d_LI_join_53 rfl (lv_at hl 1 rfl) ?_
      refine lv_iload hx hb d_LI_join_54 (lv_at hl 0 rfl) ?_
      refine lv_iconst (v := nI (4)) hx hb d_LI_join_56 (by decide) ?_
      refine lv_idiv hx hb d_LI_join_57 (by decide) ?_
      refine fm_tw (z := nI (op / 4)) (pk_div (by omega) (by omega) (by omega)) ?_
      refine lv_aload_n hx hb d_LI_join_58 rfl (lv_at hl 1 rfl) ?_
      refine va_get (D := (dC, dI)) (ci := 2) (v := .int (nI ((fm_new op z x r R).length))) (C := R_LI) (T := F_LI) (N := 5) hx hb ht i_LI hown hK hP 0 rfl rfl 3 (by decide) (ht _ q_1_48) (fun _ h9 => h9) rfl d_LI_join_59 ?_
      refine lv_iconst (v := nI (1)) hx hb d_LI_join_62 (by decide) ?_
      refine lv_isub hx hb d_LI_join_63 ?_
      refine fm_tw (z := nI ((fm_new op z x r R).length - 1)) (pk_sub (by omega)) ?_
      refine va_mmin hx hb (by rw [hml]; exact hl.1.symm) hown (ht _ q_3_53) (ht _ q_2_34) (ht _ q_1_10) (ht _ q_2_35) (Nat.le_of_ble_eq_true rfl) (Nat.le_of_ble_eq_true rfl) (Nat.zero_le _) (Nat.zero_le _) d_LI_join_64 ?_
      refine fm_tw (z := nI ((min (op / 4) ((fm_new op z x r R).length - 1)))) (fm_minI (by omega) (by have h9 := fm_new_len op z x r R; omega)) ?_
      refine fm_xv S (c_LI_pass l dC dI q pa va na ((fm_new op z x r R).length) co cI cZ (upd (upd pd R.length (nI (z))) (R.length + 1) (nI (x))) vl kn ((fm_new op z x r R)) L ((min (op / 4) ((fm_new op z x r R).length - 1))) (hPN) (rfl) (hCL) (hco) (by omega) (by have h9 := fm_new_len op z x r R; omega) (fm_new_256 hxR (by omega))) rfl rfl k_LI_pass q_3_68 ⟨Nat.le_of_ble_eq_true rfl, Nat.le_of_ble_eq_true rfl⟩ hP hD hS (hK.sub [0, 1] rfl) [0, 1, 2, 3] (by decide) rfl 0 rfl rfl rfl hl.1 rfl (Nat.le_of_ble_eq_true rfl) ⟨Nat.zero_le _, Nat.zero_le _⟩ d_LI_join_67 (fun u => [(q, .inr (2, [.ref pa, .ref va, .ref na, .int (nI (((fm_new op z x r R)).length - ((min (op / 4) ((fm_new op z x r R).length - 1))))), .int (nI ((L ++ fm_its (fm_c0 (((fm_new op z x r R)).take ((min (op / 4) ((fm_new op z x r R).length - 1)))))).length))])), (pa, .inl (cI, 1066, .inl ((upd (upd pd R.length (nI (z))) (R.length + 1) (nI (x)))))), (va, .inl (cI, 1066, .inl (u.1))), (na, .inl (cZ, 1066, .inl (u.2)))]) [] (fun _ => rfl) (fun _ => rfl) (fun _ => show ∀ i, i < 4 → i ∈ ([0, 1, 2, 3] : List Nat) ∨ i ∈ ([] : List Nat) by decide) (by decide) (fun _ => rfl) (fun u hu H locs hP hD hS => ?_)
      obtain ⟨vl2, kn2⟩ := u
      have hu_67 : fm_CL vl2 kn2 (L ++ fm_its (fm_c0 (((fm_new op z x r R)).take ((min (op / 4) ((fm_new op z x r R).length - 1)))))) := hu
      have hP : va_P (dC, dI) classes [(q, .inr (2, [.ref pa, .ref va, .ref na, .int (nI (((fm_new op z x r R)).length - ((min (op / 4) ((fm_new op z x r R).length - 1))))), .int (nI ((L ++ fm_its (fm_c0 (((fm_new op z x r R)).take ((min (op / 4) ((fm_new op z x r R).length - 1)))))).length))])), (pa, .inl (cI, 1066, .inl ((upd (upd pd R.length (nI (z))) (R.length + 1) (nI (x)))))), (va, .inl (cI, 1066, .inl (vl2))), (na, .inl (cZ, 1066, .inl (kn2)))] _ := hP
      have hD : va_D A [(q, .inr (2, [.ref pa, .ref va, .ref na, .int (nI (((fm_new op z x r R)).length - ((min (op / 4) ((fm_new op z x r R).length - 1))))), .int (nI ((L ++ fm_its (fm_c0 (((fm_new op z x r R)).take ((min (op / 4) ((fm_new op z x r R).length - 1)))))).length))])), (pa, .inl (cI, 1066, .inl ((upd (upd pd R.length (nI (z))) (R.length + 1) (nI (x)))))), (va, .inl (cI, 1066, .inl (vl2))), (na, .inl (cZ, 1066, .inl (kn2)))] := hD
      exact W.vret hx hb hr (fun t ht hW => ⟨((upd (upd pd R.length (nI (z))) (R.length + 1) (nI (x))), vl2, kn2), (⟨fm_PD_drop hPN _, hu_67⟩), rfl, by rw [ht]; exact hP, hS.F ht⟩) hS.2.2 d_LI_join_70
  · have c_21 : op % 2 = 1 := (nI_eq (a := op % 2) (b := 1) (by omega) (by omega)).mp c0
    refine lv_aload_n hx hb d_LI_join_24 rfl (lv_at hl 1 rfl) ?_
    refine lv_iload_n hx hb d_LI_join_25 rfl (lv_at hl 3 rfl) ?_
    refine fm_wv S (c_LI_push l dC dI q pa va na R.length (nI (co)) cI pd (nI (r)) (by omega)) rfl rfl k_LI_push q_3_49 ⟨Nat.le_of_ble_eq_true rfl, Nat.le_of_ble_eq_true rfl⟩ hP hD hS (hK.sub [0] rfl) [0, 1] (by decide) rfl 0 rfl rfl rfl hl.1 rfl (Nat.le_of_ble_eq_true rfl) ⟨Nat.zero_le _, Nat.zero_le _⟩ d_LI_join_26 [(q, .inr (2, [.ref pa, .ref va, .ref na, .int (nI (R.length + 1)), .int (nI (co))])), (pa, .inl (cI, 1066, .inl (upd pd R.length (nI (r))))), (va, .inl (cI, 1066, .inl (vl))), (na, .inl (cZ, 1066, .inl (kn)))] [2, 3] rfl rfl (show ∀ i, i < 4 → i ∈ ([0, 1] : List Nat) ∨ i ∈ ([2, 3] : List Nat) by decide) (by decide) rfl (fun H locs hP hD hS => ?_)
    have hP : va_P (dC, dI) classes [(q, .inr (2, [.ref pa, .ref va, .ref na, .int (nI (R.length + 1)), .int (nI (co))])), (pa, .inl (cI, 1066, .inl (upd pd R.length (nI (r))))), (va, .inl (cI, 1066, .inl (vl))), (na, .inl (cZ, 1066, .inl (kn)))] _ := hP
    have hD : va_D A [(q, .inr (2, [.ref pa, .ref va, .ref na, .int (nI (R.length + 1)), .int (nI (co))])), (pa, .inl (cI, 1066, .inl (upd pd R.length (nI (r))))), (va, .inl (cI, 1066, .inl (vl))), (na, .inl (cZ, 1066, .inl (kn)))] := hD
    refine lv_aload_n hx hb d_LI_join_29 rfl (lv_at hl 1 rfl) ?_
    refine lv_iload_n hx hb d_LI_join_30 rfl (lv_at hl 4 rfl) ?_
    refine lv_sipush (v := nI (255)) hx hb d_LI_join_31 (by decide) ?_
    refine lv_iand hx hb d_LI_join_34 ?_
    refine fm_tw (z := nI (z)) (by rw [show nI 255 = 255 from rfl, pk_andN (by omega) 8 (by decide)]; exact congrArg nI (by omega)) ?_
    refine fm_wv S (c_LI_push l dC dI q pa va na (R.length + 1) (nI (co)) cI (upd pd R.length (nI (r))) (nI (z)) (by omega)) rfl rfl k_LI_push q_3_49 ⟨Nat.le_of_ble_eq_true rfl, Nat.le_of_ble_eq_true rfl⟩ hP hD hS (hK.sub [0] rfl) [0, 1] (by decide) rfl 0 rfl rfl rfl hl.1 rfl (Nat.le_of_ble_eq_true rfl) ⟨Nat.zero_le _, Nat.zero_le _⟩ d_LI_join_35 [(q, .inr (2, [.ref pa, .ref va, .ref na, .int (nI ((R.length + 1) + 1)), .int (nI (co))])), (pa, .inl (cI, 1066, .inl (upd (upd pd R.length (nI (r))) (R.length + 1) (nI (z))))), (va, .inl (cI, 1066, .inl (vl))), (na, .inl (cZ, 1066, .inl (kn)))] [2, 3] rfl rfl (show ∀ i, i < 4 → i ∈ ([0, 1] : List Nat) ∨ i ∈ ([2, 3] : List Nat) by decide) (by decide) rfl (fun H locs hP hD hS => ?_)
    have hP : va_P (dC, dI) classes [(q, .inr (2, [.ref pa, .ref va, .ref na, .int (nI ((R.length + 1) + 1)), .int (nI (co))])), (pa, .inl (cI, 1066, .inl (upd (upd pd R.length (nI (r))) (R.length + 1) (nI (z))))), (va, .inl (cI, 1066, .inl (vl))), (na, .inl (cZ, 1066, .inl (kn)))] _ := hP
    have hD : va_D A [(q, .inr (2, [.ref pa, .ref va, .ref na, .int (nI ((R.length + 1) + 1)), .int (nI (co))])), (pa, .inl (cI, 1066, .inl (upd (upd pd R.length (nI (r))) (R.length + 1) (nI (z))))), (va, .inl (cI, 1066, .inl (vl))), (na, .inl (cZ, 1066, .inl (kn)))] := hD
    refine lv_iload hx hb d_LI_join_38 (lv_at hl 0 rfl) ?_
    refine lv_iconst (v := nI (2)) hx hb d_LI_join_40 (by decide) ?_
    refine lv_idiv hx hb d_LI_join_41 (by decide) ?_
    refine fm_tw (z := nI (op / 2)) (pk_div (by omega) (by omega) (by omega)) ?_
    refine lv_iconst (v := nI (2)) hx hb d_LI_join_42 (by decide) ?_
    refine lv_irem hx hb d_LI_join_43 (by decide) ?_
    refine fm_tw (z := nI ((op / 2) % 2)) (pk_rem (by omega) (by omega) (by omega)) ?_
    refine lv_iconst (v := nI (1)) hx hb d_LI_join_44 (by decide) ?_
    refine lv_icmp_ne (tgt := 53) hx hb d_LI_join_45 (by decide) (fun c0 => ?_) (fun c0 => ?_)
    · have c_45 : ¬ ((op / 2) % 2 = 1) := fun z => c0 ((nI_eq (a := (op / 2) % 2) (b := 1) (by omega) (by omega)).mpr z)
      have hPN : fm_PD (upd (upd pd R.length (nI (r))) (R.length + 1) (nI (z))) (fm_new op z x r R) := by first | (unfold fm_new; rw [if_pos c_45, if_pos c_21]; exact fm_PD_push (fm_PD_push (fm_PD_push hPR r) z) x) | (unfold fm_new; rw [if_pos c_45, if_neg c_21]; exact fm_PD_push (fm_PD_push hPR z) x) | (unfold fm_new; rw [if_neg c_45, if_pos c_21]; exact fm_PD_push (fm_PD_push hPR r) z) | (unfold fm_new; rw [if_neg c_45, if_neg c_21]; exact fm_PD_push hPR z)
      have hNl : (fm_new op z x r R).length = (R.length + 1) + 1 := by first | (unfold fm_new; rw [if_pos c_45, if_pos c_21]; simp) | (unfold fm_new; rw [if_pos c_45, if_neg c_21]; simp) | (unfold fm_new; rw [if_neg c_45, if_pos c_21]; simp) | (unfold fm_new; rw [if_neg c_45, if_neg c_21]; simp)
      rw [← hNl] at hP hD
      refine lv_aload_n hx hb d_LI_join_53 rfl (lv_at hl 1 rfl) ?_
      refine lv_iload hx hb d_LI_join_54 (lv_at hl 0 rfl) ?_
      refine lv_iconst (v := nI (4)) hx hb d_LI_join_56 (by decide) ?_
      refine lv_idiv hx hb d_LI_join_57 (by decide) ?_
      refine fm_tw (z := nI (op / 4)) (pk_div (by omega) (by omega) (by omega)) ?_
      refine lv_aload_n hx hb d_LI_join_58 rfl (lv_at hl 1 rfl) ?_
      refine va_get (D := (dC, dI)) (ci := 2) (v := .int (nI ((fm_new op z x r R).length))) (C := R_LI) (T := F_LI) (N := 5) hx hb ht i_LI hown hK hP 0 rfl rfl 3 (by decide) (ht _ q_1_48) (fun _ h9 => h9) rfl d_LI_join_59 ?_
      refine lv_iconst (v := nI (1)) hx hb d_LI_join_62 (by decide) ?_
      refine lv_isub hx hb d_LI_join_63 ?_
      refine fm_tw (z := nI ((fm_new op z x r R).length - 1)) (pk_sub (by omega)) ?_
      refine va_mmin hx hb (by rw [hml]; exact hl.1.symm) hown (ht _ q_3_53) (ht _ q_2_34) (ht _ q_1_10) (ht _ q_2_35) (Nat.le_of_ble_eq_true rfl) (Nat.le_of_ble_eq_true rfl) (Nat.zero_le _) (Nat.zero_le _) d_LI_join_64 ?_
      refine fm_tw (z := nI ((min (op / 4) ((fm_new op z x r R).length - 1)))) (fm_minI (by omega) (by have h9 := fm_new_len op z x r R; omega)) ?_
      refine fm_xv S (c_LI_pass l dC dI q pa va na ((fm_new op z x r R).length) co cI cZ (upd (upd pd R.length (nI (r))) (R.length + 1) (nI (z))) vl kn ((fm_new op z x r R)) L ((min (op / 4) ((fm_new op z x r R).length - 1))) (hPN) (rfl) (hCL) (hco) (by omega) (by have h9 := fm_new_len op z x r R; omega) (fm_new_256 hxR (by omega))) rfl rfl k_LI_pass q_3_68 ⟨Nat.le_of_ble_eq_true rfl, Nat.le_of_ble_eq_true rfl⟩ hP hD hS (hK.sub [0, 1] rfl) [0, 1, 2, 3] (by decide) rfl 0 rfl rfl rfl hl.1 rfl (Nat.le_of_ble_eq_true rfl) ⟨Nat.zero_le _, Nat.zero_le _⟩ d_LI_join_67 (fun u => [(q, .inr (2, [.ref pa, .ref va, .ref na, .int (nI (((fm_new op z x r R)).length - ((min (op / 4) ((fm_new op z x r R).length - 1))))), .int (nI ((L ++ fm_its (fm_c0 (((fm_new op z x r R)).take ((min (op / 4) ((fm_new op z x r R).length - 1)))))).length))])), (pa, .inl (cI, 1066, .inl ((upd (upd pd R.length (nI (r))) (R.length + 1) (nI (z)))))), (va, .inl (cI, 1066, .inl (u.1))), (na, .inl (cZ, 1066, .inl (u.2)))]) [] (fun _ => rfl) (fun _ => rfl) (fun _ => show ∀ i, i < 4 → i ∈ ([0, 1, 2, 3] : List Nat) ∨ i ∈ ([] : List Nat) by decide) (by decide) (fun _ => rfl) (fun u hu H locs hP hD hS => ?_)
      obtain ⟨vl2, kn2⟩ := u
      have hu_67 : fm_CL vl2 kn2 (L ++ fm_its (fm_c0 (((fm_new op z x r R)).take ((min (op / 4) ((fm_new op z x r R).length - 1)))))) := hu
      have hP : va_P (dC, dI) classes [(q, .inr (2, [.ref pa, .ref va, .ref na, .int (nI (((fm_new op z x r R)).length - ((min (op / 4) ((fm_new op z x r R).length - 1))))), .int (nI ((L ++ fm_its (fm_c0 (((fm_new op z x r R)).take ((min (op / 4) ((fm_new op z x r R).length - 1)))))).length))])), (pa, .inl (cI, 1066, .inl ((upd (upd pd R.length (nI (r))) (R.length + 1) (nI (z)))))), (va, .inl (cI, 1066, .inl (vl2))), (na, .inl (cZ, 1066, .inl (kn2)))] _ := hP
      have hD : va_D A [(q, .inr (2, [.ref pa, .ref va, .ref na, .int (nI (((fm_new op z x r R)).length - ((min (op / 4) ((fm_new op z x r R).length - 1))))), .int (nI ((L ++ fm_its (fm_c0 (((fm_new op z x r R)).take ((min (op / 4) ((fm_new op z x r R).length - 1)))))).length))])), (pa, .inl (cI, 1066, .inl ((upd (upd pd R.length (nI (r))) (R.length + 1) (nI (z)))))), (va, .inl (cI, 1066, .inl (vl2))), (na, .inl (cZ, 1066, .inl (kn2)))] := hD
      exact W.vret hx hb hr (fun t ht hW => ⟨((upd (upd pd R.length (nI (r))) (R.length + 1) (nI (z))), vl2, kn2), (⟨fm_PD_drop hPN _, hu_67⟩), rfl, by rw [ht]; exact hP, hS.F ht⟩) hS.2.2 d_LI_join_70
    · have c_45 : (op / 2) % 2 = 1 := (nI_eq (a := (op / 2) % 2) (b := 1) (by omega) (by omega)).mp c0
      refine lv_aload_n hx hb d_LI_join_48 rfl (lv_at hl 1 rfl) ?_
      refine lv_iload_n hx hb d_LI_join_49 rfl (lv_at hl 2 rfl) ?_
      refine fm_wv S (c_LI_push l dC dI q pa va na ((R.length + 1) + 1) (nI (co)) cI (upd (upd pd R.length (nI (r))) (R.length + 1) (nI (z))) (nI (x)) (by omega)) rfl rfl k_LI_push q_3_49 ⟨Nat.le_of_ble_eq_true rfl, Nat.le_of_ble_eq_true rfl⟩ hP hD hS (hK.sub [0] rfl) [0, 1] (by decide) rfl 0 rfl rfl rfl hl.1 rfl (Nat.le_of_ble_eq_true rfl) ⟨Nat.zero_le _, Nat.zero_le _⟩ d_LI_join_50 [(q, .inr (2, [.ref pa, .ref va, .ref na, .int (nI (((R.length + 1) + 1) + 1)), .int (nI (co))])), (pa, .inl (cI, 1066, .inl (upd (upd (upd pd R.length (nI (r))) (R.length + 1) (nI (z))) ((R.length + 1) + 1) (nI (x))))), (va, .inl (cI, 1066, .inl (vl))), (na, .inl (cZ, 1066, .inl (kn)))] [2, 3] rfl rfl (show ∀ i, i < 4 → i ∈ ([0, 1] : List Nat) ∨ i ∈ ([2, 3] : List Nat) by decide) (by decide) rfl (fun H locs hP hD hS => ?_)
      have hP : va_P (dC, dI) classes [(q, .inr (2, [.ref pa, .ref va, .ref na, .int (nI (((R.length + 1) + 1) + 1)), .int (nI (co))])), (pa, .inl (cI, 1066, .inl (upd (upd (upd pd R.length (nI (r))) (R.length + 1) (nI (z))) ((R.length + 1) + 1) (nI (x))))), (va, .inl (cI, 1066, .inl (vl))), (na, .inl (cZ, 1066, .inl (kn)))] _ := hP
      have hD : va_D A [(q, .inr (2, [.ref pa, .ref va, .ref na, .int (nI (((R.length + 1) + 1) + 1)), .int (nI (co))])), (pa, .inl (cI, 1066, .inl (upd (upd (upd pd R.length (nI (r))) (R.length + 1) (nI (z))) ((R.length + 1) + 1) (nI (x))))), (va, .inl (cI, 1066, .inl (vl))), (na, .inl (cZ, 1066, .inl (kn)))] := hD
      have hPN : fm_PD (upd (upd (upd pd R.length (nI (r))) (R.length + 1) (nI (z))) ((R.length + 1) + 1) (nI (x))) (fm_new op z x r R) := by first | (unfold fm_new; rw [if_pos c_45, if_pos c_21]; exact fm_PD_push (fm_PD_push (fm_PD_push hPR r) z) x) | (unfold fm_new; rw [if_pos c_45, if_neg c_21]; exact fm_PD_push (fm_PD_push hPR z) x) | (unfold fm_new; rw [if_neg c_45, if_pos c_21]; exact fm_PD_push (fm_PD_push hPR r) z) | (unfold fm_new; rw [if_neg c_45, if_neg c_21]; exact fm_PD_push hPR z)
      have hNl : (fm_new op z x r R).length = ((R.length + 1) + 1) + 1 := by first | (unfold fm_new; rw [if_pos c_45, if_pos c_21]; simp) | (unfold fm_new; rw [if_pos c_45, if_neg c_21]; simp) | (unfold fm_new; rw [if_neg c_45, if_pos c_21]; simp) | (unfold fm_new; rw [if_neg c_45, if_neg c_21]; simp)
      rw [← hNl] at hP hD
      refine lv_aload_n hx hb d_LI_join_53 rfl (lv_at hl 1 rfl) ?_
      refine lv_iload hx hb d_LI_join_54 (lv_at hl 0 rfl) ?_
      refine lv_iconst (v := nI (4)) hx hb d_LI_join_56 (by decide) ?_
      refine lv_idiv hx hb d_LI_join_57 (by decide) ?_
      refine fm_tw (z := nI (op / 4)) (pk_div (by omega) (by omega) (by omega)) ?_
      refine lv_aload_n hx hb d_LI_join_58 rfl (lv_at hl 1 rfl) ?_
      refine va_get (D := (dC, dI)) (ci := 2) (v := .int (nI ((fm_new op z x r R).length))) (C := R_LI) (T := F_LI) (N := 5) hx hb ht i_LI hown hK hP 0 rfl rfl 3 (by decide) (ht _ q_1_48) (fun _ h9 => h9) rfl d_LI_join_59 ?_
      refine lv_iconst (v := nI (1)) hx hb d_LI_join_62 (by decide) ?_
      refine lv_isub hx hb d_LI_join_63 ?_
      refine fm_tw (z := nI ((fm_new op z x r R).length - 1)) (pk_sub (by omega)) ?_
      refine va_mmin hx hb (by rw [hml]; exact hl.1.symm) hown (ht _ q_3_53) (ht _ q_2_34) (ht _ q_1_10) (ht _ q_2_35) (Nat.le_of_ble_eq_true rfl) (Nat.le_of_ble_eq_true rfl) (Nat.zero_le _) (Nat.zero_le _) d_LI_join_64 ?_
      refine fm_tw (z := nI ((min (op / 4) ((fm_new op z x r R).length - 1)))) (fm_minI (by omega) (by have h9 := fm_new_len op z x r R; omega)) ?_
      refine fm_xv S (c_LI_pass l dC dI q pa va na ((fm_new op z x r R).length) co cI cZ (upd (upd (upd pd R.length (nI (r))) (R.length + 1) (nI (z))) ((R.length + 1) + 1) (nI (x))) vl kn ((fm_new op z x r R)) L ((min (op / 4) ((fm_new op z x r R).length - 1))) (hPN) (rfl) (hCL) (hco) (by omega) (by have h9 := fm_new_len op z x r R; omega) (fm_new_256 hxR (by omega))) rfl rfl k_LI_pass q_3_68 ⟨Nat.le_of_ble_eq_true rfl, Nat.le_of_ble_eq_true rfl⟩ hP hD hS (hK.sub [0, 1] rfl) [0, 1, 2, 3] (by decide) rfl 0 rfl rfl rfl hl.1 rfl (Nat.le_of_ble_eq_true rfl) ⟨Nat.zero_le _, Nat.zero_le _⟩ d_LI_join_67 (fun u => [(q, .inr (2, [.ref pa, .ref va, .ref na, .int (nI (((fm_new op z x r R)).length - ((min (op / 4) ((fm_new op z x r R).length - 1))))), .int (nI ((L ++ fm_its (fm_c0 (((fm_new op z x r R)).take ((min (op / 4) ((fm_new op z x r R).length - 1)))))).length))])), (pa, .inl (cI, 1066, .inl ((upd (upd (upd pd R.length (nI (r))) (R.length + 1) (nI (z))) ((R.length + 1) + 1) (nI (x)))))), (va, .inl (cI, 1066, .inl (u.1))), (na, .inl (cZ, 1066, .inl (u.2)))]) [] (fun _ => rfl) (fun _ => rfl) (fun _ => show ∀ i, i < 4 → i ∈ ([0, 1, 2, 3] : List Nat) ∨ i ∈ ([] : List Nat) by decide) (by decide) (fun _ => rfl) (fun u hu H locs hP hD hS => ?_)
      obtain ⟨vl2, kn2⟩ := u
      have hu_67 : fm_CL vl2 kn2 (L ++ fm_its (fm_c0 (((fm_new op z x r R)).take ((min (op / 4) ((fm_new op z x r R).length - 1)))))) := hu
      have hP : va_P (dC, dI) classes [(q, .inr (2, [.ref pa, .ref va, .ref na, .int (nI (((fm_new op z x r R)).length - ((min (op / 4) ((fm_new op z x r R).length - 1))))), .int (nI ((L ++ fm_its (fm_c0 (((fm_new op z x r R)).take ((min (op / 4) ((fm_new op z x r R).length - 1)))))).length))])), (pa, .inl (cI, 1066, .inl ((upd (upd (upd pd R.length (nI (r))) (R.length + 1) (nI (z))) ((R.length + 1) + 1) (nI (x)))))), (va, .inl (cI, 1066, .inl (vl2))), (na, .inl (cZ, 1066, .inl (kn2)))] _ := hP
      have hD : va_D A [(q, .inr (2, [.ref pa, .ref va, .ref na, .int (nI (((fm_new op z x r R)).length - ((min (op / 4) ((fm_new op z x r R).length - 1))))), .int (nI ((L ++ fm_its (fm_c0 (((fm_new op z x r R)).take ((min (op / 4) ((fm_new op z x r R).length - 1)))))).length))])), (pa, .inl (cI, 1066, .inl ((upd (upd (upd pd R.length (nI (r))) (R.length + 1) (nI (z))) ((R.length + 1) + 1) (nI (x)))))), (va, .inl (cI, 1066, .inl (vl2))), (na, .inl (cZ, 1066, .inl (kn2)))] := hD
      exact W.vret hx hb hr (fun t ht hW => ⟨((upd (upd (upd pd R.length (nI (r))) (R.length + 1) (nI (z))) ((R.length + 1) + 1) (nI (x))), vl2, kn2), (⟨fm_PD_drop hPN _, hu_67⟩), rfl, by rw [ht]; exact hP, hS.F ht⟩) hS.2.2 d_LI_join_70
