theorem d_LI_step_0 : decode b_LI_step 0 = .ok (.aload_n 0, 1) := by decide +kernel
theorem d_LI_step_1 : decode b_LI_step 1 = .ok (.iconst 0, 1) := by decide +kernel
theorem d_LI_step_2 : decode b_LI_step 2 = .ok (.invokevirtual 58, 3) := by decide +kernel
theorem d_LI_step_5 : decode b_LI_step 5 = .ok (.istore_n 2, 1) := by decide +kernel
theorem d_LI_step_6 : decode b_LI_step 6 = .ok (.aload_n 0, 1) := by decide +kernel
theorem d_LI_step_7 : decode b_LI_step 7 = .ok (.iconst 1, 1) := by decide +kernel
theorem d_LI_step_8 : decode b_LI_step 8 = .ok (.invokevirtual 58, 3) := by decide +kernel
theorem d_LI_step_11 : decode b_LI_step 11 = .ok (.istore_n 3, 1) := by decide +kernel
theorem d_LI_step_12 : decode b_LI_step 12 = .ok (.aload_n 1, 1) := by decide +kernel
theorem d_LI_step_13 : decode b_LI_step 13 = .ok (.iload_n 2, 1) := by decide +kernel
theorem d_LI_step_14 : decode b_LI_step 14 = .ok (.iload_n 3, 1) := by decide +kernel
theorem d_LI_step_15 : decode b_LI_step 15 = .ok (.invokevirtual 62, 3) := by decide +kernel
theorem d_LI_step_18 : decode b_LI_step 18 = .ok (.istore 4, 2) := by decide +kernel
theorem d_LI_step_20 : decode b_LI_step 20 = .ok (.iload 4, 2) := by decide +kernel
theorem d_LI_step_22 : decode b_LI_step 22 = .ok (.iconst (-1), 1) := by decide +kernel
theorem d_LI_step_23 : decode b_LI_step 23 = .ok (.if_icmp .ne 11, 3) := by decide +kernel
theorem d_LI_step_26 : decode b_LI_step 26 = .ok (.aload_n 0, 1) := by decide +kernel
theorem d_LI_step_27 : decode b_LI_step 27 = .ok (.iconst 1, 1) := by decide +kernel
theorem d_LI_step_28 : decode b_LI_step 28 = .ok (.invokevirtual 55, 3) := by decide +kernel
theorem d_LI_step_31 : decode b_LI_step 31 = .ok (.goto 40, 3) := by decide +kernel
theorem d_LI_step_34 : decode b_LI_step 34 = .ok (.iload 4, 2) := by decide +kernel
theorem d_LI_step_36 : decode b_LI_step 36 = .ok (.ldc 65, 2) := by decide +kernel
theorem d_LI_step_38 : decode b_LI_step 38 = .ok (.if_icmp .lt 25, 3) := by decide +kernel
theorem d_LI_step_41 : decode b_LI_step 41 = .ok (.aload_n 0, 1) := by decide +kernel
theorem d_LI_step_42 : decode b_LI_step 42 = .ok (.iconst 1, 1) := by decide +kernel
theorem d_LI_step_43 : decode b_LI_step 43 = .ok (.invokevirtual 55, 3) := by decide +kernel
theorem d_LI_step_46 : decode b_LI_step 46 = .ok (.aload_n 0, 1) := by decide +kernel
theorem d_LI_step_47 : decode b_LI_step 47 = .ok (.aload_n 1, 1) := by decide +kernel
theorem d_LI_step_48 : decode b_LI_step 48 = .ok (.iload 4, 2) := by decide +kernel
theorem d_LI_step_50 : decode b_LI_step 50 = .ok (.ldc 65, 2) := by decide +kernel
theorem d_LI_step_52 : decode b_LI_step 52 = .ok (.isub, 1) := by decide +kernel
theorem d_LI_step_53 : decode b_LI_step 53 = .ok (.invokevirtual 66, 3) := by decide +kernel
theorem d_LI_step_56 : decode b_LI_step 56 = .ok (.iconst 1, 1) := by decide +kernel
theorem d_LI_step_57 : decode b_LI_step 57 = .ok (.invokevirtual 69, 3) := by decide +kernel
theorem d_LI_step_60 : decode b_LI_step 60 = .ok (.goto 11, 3) := by decide +kernel
theorem d_LI_step_63 : decode b_LI_step 63 = .ok (.aload_n 0, 1) := by decide +kernel
theorem d_LI_step_64 : decode b_LI_step 64 = .ok (.iload_n 2, 1) := by decide +kernel
theorem d_LI_step_65 : decode b_LI_step 65 = .ok (.iload_n 3, 1) := by decide +kernel
theorem d_LI_step_66 : decode b_LI_step 66 = .ok (.iload 4, 2) := by decide +kernel
theorem d_LI_step_68 : decode b_LI_step 68 = .ok (.invokevirtual 73, 3) := by decide +kernel
theorem d_LI_step_71 : decode b_LI_step 71 = .ok (.return_, 1) := by decide +kernel
set_option maxHeartbeats 4000000 in
set_option maxRecDepth 100000 in
theorem c_LI_step (l : Launch) (dC : Nat → ClassId) (dI : Nat → Nat → Nat) (q : Nat) (pa : Nat) (va : Nat) (na : Nat) (le : Nat) (co : Nat) (cI : ClassId) (cZ : ClassId) (pd : Nat → Int32) (vl : Nat → Int32) (kn : Nat → Int32) (D : List (Nat × Int32)) (x : Nat) (r : Nat) (R : List Nat) (o : Nat) (wa : Nat) (sa : Nat) (la : Nat) (s0 : Nat) (B : Nat → Nat) (w : Nat → Int32) (st : Nat → Int32) (ln : Nat → Int32) (hF : fm_FO B w st ln) (hV : fm_V B) (hs : s0 < 134217728) (hPD : fm_PD pd (x :: r :: R)) (hle : le = R.length + 2) (hCL : fm_CL vl kn (fm_its D)) (hco : co = (fm_its D).length) (hrm : (fm_its D).length + R.length + 3 ≤ 1066) (hok : fm_ok B (x :: r :: R)) : fm_MX (S := (Nat → Int32) × (Nat → Int32) × (Nat → Int32)) l (dC, dI) y_LI_step w_LI_step ({ frames := 4, cells := 0, slots := 0, locals := 96 }) [.ref q, .ref o] [(q, .inr (2, [.ref pa, .ref va, .ref na, .int (nI (le)), .int (nI (co))])), (pa, .inl (cI, 1066, .inl (pd))), (va, .inl (cI, 1066, .inl (vl))), (na, .inl (cZ, 1066, .inl (kn))), (o, .inr (1, [.ref wa, .ref sa, .ref la, .int (nI (fm_HF B 2)), .int (nI (fm_HF B 3)), .int (nI (s0)), .int (nI (fm_z s0)), .int (nI (fm_h s0))])), (wa, .inl (cI, 2048, .inl (w))), (sa, .inl (cI, 10, .inl (st))), (la, .inl (cI, 10, .inl (ln)))] [(cI, .int), (cZ, .boolean)] (fun u => fm_PD u.1 (fm_stp B s0 D (x :: r :: R)).2 ∧ fm_CL u.2.1 u.2.2 (fm_its (fm_stp B s0 D (x :: r :: R)).1)) (fun u => none) (fun u => [(q, .inr (2, [.ref pa, .ref va, .ref na, .int (nI ((fm_stp B s0 D (x :: r :: R)).2.length)), .int (nI ((fm_its (fm_stp B s0 D (x :: r :: R)).1).length))])), (pa, .inl (cI, 1066, .inl (u.1))), (va, .inl (cI, 1066, .inl (u.2.1))), (na, .inl (cZ, 1066, .inl (u.2.2))), (o, .inr (1, [.ref wa, .ref sa, .ref la, .int (nI (fm_HF B 2)), .int (nI (fm_HF B 3)), .int (nI (s0)), .int (nI (fm_z s0)), .int (nI (fm_h s0))])), (wa, .inl (cI, 2048, .inl (w))), (sa, .inl (cI, 10, .inl (st))), (la, .inl (cI, 10, .inl (ln)))]) := by
  refine Met.ofW (cc := b_LI_step) (maxL := 5) (ret := none) (by decide) rfl ?_
  intro pg ev s m args below meth cd s₁ BD hml hv
  obtain ⟨rfl, hP, hK, hD0⟩ := hv
  have hx := BD.exec
  have hb := BD.bytes
  have hr := BD.returns
  have hts := atoms_spec (ws := w_LI_step) BD.pre
  have ht : ∀ w ∈ fm_T, w.before _ s = true := fun w h => hts w (List.mem_cons_of_mem _ h)
  have hown : s.vm.findClass R_LI = some m.cls := findClass_of_methodNamed BD.named
  have hlocks := BD.notSynchronized
  have S : CallFix pg m cd b_LI_step 5 s _ w_LI_step R_LI := ⟨hx, hb, hml, hown, hts⟩
  have hD := fm_selfD hD0
  generalize fm_A [(q, .inr (2, [.ref pa, .ref va, .ref na, .int (nI (le)), .int (nI (co))])), (pa, .inl (cI, 1066, .inl (pd))), (va, .inl (cI, 1066, .inl (vl))), (na, .inl (cZ, 1066, .inl (kn))), (o, .inr (1, [.ref wa, .ref sa, .ref la, .int (nI (fm_HF B 2)), .int (nI (fm_HF B 3)), .int (nI (s0)), .int (nI (fm_z s0)), .int (nI (fm_h s0))])), (wa, .inl (cI, 2048, .inl (w))), (sa, .inl (cI, 10, .inl (st))), (la, .inl (cI, 10, .inl (ln)))] = A at hD ⊢
  have hS : va_S A s.heap s.heap [] := va_S.rf
  have hl := lv_entry ([.ref q, .ref o]) (n := 5) (Nat.le_of_ble_eq_true rfl)
  rw [lg_entry_eq]
  generalize (lg_sl ([.ref q, .ref o]) ++ List.replicate (5 - (lg_sl ([.ref q, .ref o])).length) Slot.unset).toArray = ls at hl ⊢
  have hl : lv_has ls 5 [(0, .ref q), (1, .ref o)] := hl
  have hB : ∀ i, B i < 256 := hF.1.1
  obtain ⟨hL, hFw, hFs, hFl⟩ := id hF
  obtain ⟨-, hq, h3, h10⟩ := id hL
  have hxx := hok x (by simp)
  have hrx := hok r (by simp)
  have hx256 : ∀ c ∈ (x :: r :: R), c ≤ 256 := fun c hc => fm_le256 hL (hok c hc)
  have hxl := hx256 x (by simp)
  have hrl := hx256 r (by simp)
  refine lv_aload_n hx hb d_LI_step_0 rfl (lv_at hl 0 rfl) ?_
  refine lv_iconst (v := nI (0)) hx hb d_LI_step_1 (by decide) ?_
  refine fm_cv S (c_LI_pendingAt l dC dI q pa va na le (nI (co)) cI pd 0 (by omega) (by omega)) rfl rfl k_LI_pendingAt q_3_63 ⟨Nat.le_of_ble_eq_true rfl, Nat.le_of_ble_eq_true rfl⟩ (hP.sub [0, 1] rfl) (hK.sub [0] rfl) 0 rfl rfl rfl hl.1 rfl (Nat.le_of_ble_eq_true rfl) ⟨Nat.zero_le _, Nat.zero_le _⟩ d_LI_step_2 ?_
  refine fm_tw (z := nI (x)) (by rw [hle]; exact hPD 0 x rfl) ?_
  refine lv_istore_n (lv' := [(2, .int (nI (x))), (0, .ref q), (1, .ref o)]) hx hb d_LI_step_5 rfl hl (by decide) rfl (fun ls hl => ?_)
  refine lv_aload_n hx hb d_LI_step_6 rfl (lv_at hl 1 rfl) ?_
  refine lv_iconst (v := nI (1)) hx hb d_LI_step_7 (by decide) ?_
  refine fm_cv S (c_LI_pendingAt l dC dI q pa va na le (nI (co)) cI pd 1 (by omega) (by omega)) rfl rfl k_LI_pendingAt q_3_63 ⟨Nat.le_of_ble_eq_true rfl, Nat.le_of_ble_eq_true rfl⟩ (hP.sub [0, 1] rfl) (hK.sub [0] rfl) 0 rfl rfl rfl hl.1 rfl (Nat.le_of_ble_eq_true rfl) ⟨Nat.zero_le _, Nat.zero_le _⟩ d_LI_step_8 ?_
  refine fm_tw (z := nI (r)) (by rw [hle]; exact hPD 1 r rfl) ?_
  refine lv_istore_n (lv' := [(3, .int (nI (r))), (2, .int (nI (x))), (0, .ref q), (1, .ref o)]) hx hb d_LI_step_11 rfl hl (by decide) rfl (fun ls hl => ?_)
  refine lv_aload_n hx hb d_LI_step_12 rfl (lv_at hl 3 rfl) ?_
  refine lv_iload_n hx hb d_LI_step_13 rfl (lv_at hl 1 rfl) ?_
  refine lv_iload_n hx hb d_LI_step_14 rfl (lv_at hl 0 rfl) ?_
  refine fm_cv S (c_FO_find l dC dI o wa sa la (nI (s0)) (nI (fm_z s0)) (nI (fm_h s0)) cI B w st ln x r (hF) (hV) (hxx) (by omega)) rfl rfl k_FO_find q_3_67 ⟨Nat.le_of_ble_eq_true rfl, Nat.le_of_ble_eq_true rfl⟩ (hP.sub [4, 5, 6, 7] rfl) (hK.sub [0] rfl) 0 rfl rfl rfl hl.1 rfl (Nat.le_of_ble_eq_true rfl) ⟨Nat.zero_le _, Nat.zero_le _⟩ d_LI_step_15 ?_
  refine lv_istore (lv' := [(4, .int (fm_say B x r)), (3, .int (nI (r))), (2, .int (nI (x))), (0, .ref q), (1, .ref o)]) hx hb d_LI_step_18 hl (by decide) rfl (fun ls hl => ?_)
  rcases hfd : fm_fd B x r with _ | k
  · rw [show fm_say B x r = -1 by rw [fm_say, hfd]; rfl] at hl
    refine lv_iload hx hb d_LI_step_20 (lv_at hl 0 rfl) ?_
    refine lv_iconst (v := ((-1))) hx hb d_LI_step_22 (by decide) ?_
    refine lv_icmp_ne (tgt := 34) hx hb d_LI_step_23 (by decide) (fun c0 => ?_) (fun c0 => ?_)
    · have c_23 := c0
      exact absurd rfl c_23
    · have c_23 := c0
      refine lv_aload_n hx hb d_LI_step_26 rfl (lv_at hl 3 rfl) ?_
      refine lv_iconst (v := nI (1)) hx hb d_LI_step_27 (by decide) ?_
      refine fm_xv S (c_LI_pass l dC dI q pa va na le co cI cZ pd vl kn (x :: r :: R) (fm_its D) 1 (hPD) (hle) (hCL) (hco) (by simp) (by simp only [List.length_cons]; omega) (hx256)) rfl rfl k_LI_pass q_3_68 ⟨Nat.le_of_ble_eq_true rfl, Nat.le_of_ble_eq_true rfl⟩ hP hD hS (hK.sub [0, 1] rfl) [0, 1, 2, 3] (by decide) rfl 0 rfl rfl rfl hl.1 rfl (Nat.le_of_ble_eq_true rfl) ⟨Nat.zero_le _, Nat.zero_le _⟩ d_LI_step_28 (fun u => [(q, .inr (2, [.ref pa, .ref va, .ref na, .int (nI ((x :: r :: R).length - 1)), .int (nI (((fm_its D) ++ fm_its (fm_c0 ((x :: r :: R).take 1))).length))])), (pa, .inl (cI, 1066, .inl (pd))), (va, .inl (cI, 1066, .inl (u.1))), (na, .inl (cZ, 1066, .inl (u.2))), (o, .inr (1, [.ref wa, .ref sa, .ref la, .int (nI (fm_HF B 2)), .int (nI (fm_HF B 3)), .int (nI (s0)), .int (nI (fm_z s0)), .int (nI (fm_h s0))])), (wa, .inl (cI, 2048, .inl (w))), (sa, .inl (cI, 10, .inl (st))), (la, .inl (cI, 10, .inl (ln)))]) [4, 5, 6, 7] (fun _ => rfl) (fun _ => rfl) (fun _ => show ∀ i, i < 8 → i ∈ ([0, 1, 2, 3] : List Nat) ∨ i ∈ ([4, 5, 6, 7] : List Nat) by decide) (by decide) (fun _ => rfl) (fun u hu H locs hP hD hS => ?_)
      obtain ⟨vl2, kn2⟩ := u
      have hu_28 : fm_CL vl2 kn2 ((fm_its D) ++ fm_its (fm_c0 ((x :: r :: R).take 1))) := hu
      have hP : va_P (dC, dI) classes [(q, .inr (2, [.ref pa, .ref va, .ref na, .int (nI ((x :: r :: R).length - 1)), .int (nI (((fm_its D) ++ fm_its (fm_c0 ((x :: r :: R).take 1))).length))])), (pa, .inl (cI, 1066, .inl (pd))), (va, .inl (cI, 1066, .inl (vl2))), (na, .inl (cZ, 1066, .inl (kn2))), (o, .inr (1, [.ref wa, .ref sa, .ref la, .int (nI (fm_HF B 2)), .int (nI (fm_HF B 3)), .int (nI (s0)), .int (nI (fm_z s0)), .int (nI (fm_h s0))])), (wa, .inl (cI, 2048, .inl (w))), (sa, .inl (cI, 10, .inl (st))), (la, .inl (cI, 10, .inl (ln)))] _ := hP
      have hD : va_D A [(q, .inr (2, [.ref pa, .ref va, .ref na, .int (nI ((x :: r :: R).length - 1)), .int (nI (((fm_its D) ++ fm_its (fm_c0 ((x :: r :: R).take 1))).length))])), (pa, .inl (cI, 1066, .inl (pd))), (va, .inl (cI, 1066, .inl (vl2))), (na, .inl (cZ, 1066, .inl (kn2))), (o, .inr (1, [.ref wa, .ref sa, .ref la, .int (nI (fm_HF B 2)), .int (nI (fm_HF B 3)), .int (nI (s0)), .int (nI (fm_z s0)), .int (nI (fm_h s0))])), (wa, .inl (cI, 2048, .inl (w))), (sa, .inl (cI, 10, .inl (st))), (la, .inl (cI, 10, .inl (ln)))] := hD
      refine lv_goto (tgt := 71) hx hb d_LI_step_31 (by decide) ?_
      exact W.vret hx hb hr (fun t ht hW => ⟨(pd, vl2, kn2), (by rw [fm_stp_n hfd]; exact ⟨fm_PD_drop hPD 1, by rw [fm_its_app]; exact hu_28⟩), rfl, by rw [ht]; exact show va_P (dC, dI) classes [(q, .inr (2, [.ref pa, .ref va, .ref na, .int (nI ((fm_stp B s0 D (x :: r :: R)).2.length)), .int (nI ((fm_its (fm_stp B s0 D (x :: r :: R)).1).length))])), (pa, .inl (cI, 1066, .inl (pd))), (va, .inl (cI, 1066, .inl (vl2))), (na, .inl (cZ, 1066, .inl (kn2))), (o, .inr (1, [.ref wa, .ref sa, .ref la, .int (nI (fm_HF B 2)), .int (nI (fm_HF B 3)), .int (nI (s0)), .int (nI (fm_z s0)), .int (nI (fm_h s0))])), (wa, .inl (cI, 2048, .inl (w))), (sa, .inl (cI, 10, .inl (st))), (la, .inl (cI, 10, .inl (ln)))] _ from (by rw [fm_stp_n hfd, fm_its_app]; exact hP), hS.F ht⟩) hS.2.2 d_LI_step_71
  · rw [show fm_say B x r = nI (fm_FAR B k) by rw [fm_say, hfd]; rfl] at hl
    have hkw := fm_V_fd hV hxx hfd
    have hsk := fm_fd_skip hfd
    have hfar := fm_FAR_lt hB k
    have ha2 := fm_AT_lt hB 6 k 2
    have ha3 := fm_AT_lt hB 6 k 3
    have hfe : fm_FAR B k = 256 * fm_AT B 6 k 2 + fm_AT B 6 k 3 := rfl
    refine lv_iload hx hb d_LI_step_20 (lv_at hl 0 rfl) ?_
    refine lv_iconst (v := ((-1))) hx hb d_LI_step_22 (by decide) ?_
    refine lv_icmp_ne (tgt := 34) hx hb d_LI_step_23 (by decide) (fun c0 => ?_) (fun c0 => ?_)
    · have c_23 := c0
      refine lv_iload hx hb d_LI_step_34 (lv_at hl 0 rfl) ?_
      refine lv_ldc (own := R_LI) (v := nI (32768)) hx hb hown (ht _ q_3_76) d_LI_step_36 ?_
      refine lv_icmp_lt (tgt := 63) hx hb d_LI_step_38 (by decide) (fun c0 => ?_) (fun c0 => ?_)
      · have c_38 : fm_FAR B k < 32768 := (nI_ltI (a := fm_FAR B k) (b := 32768) (by omega) (by omega)).mp c0
        have hk128 : ¬ 128 ≤ fm_AT B 6 k 2 := by omega
        refine lv_aload_n hx hb d_LI_step_63 rfl (lv_at hl 3 rfl) ?_
        refine lv_iload_n hx hb d_LI_step_64 rfl (lv_at hl 2 rfl) ?_
        refine lv_iload_n hx hb d_LI_step_65 rfl (lv_at hl 1 rfl) ?_
        refine lv_iload hx hb d_LI_step_66 (lv_at hl 0 rfl) ?_
        refine fm_xv S (c_LI_join l dC dI q pa va na le co cI cZ pd vl kn (fm_its D) x r R (fm_AT B 6 k 2) (fm_AT B 6 k 3) (fm_PD_drop hPD 2) (hle) (hCL) (hco) (hrm) (hx256) (by omega) (by omega)) rfl rfl k_LI_join q_3_81 ⟨Nat.le_of_ble_eq_true rfl, Nat.le_of_ble_eq_true rfl⟩ hP hD hS (hK.sub [0, 1] rfl) [0, 1, 2, 3] (by decide) rfl 0 rfl rfl rfl hl.1 rfl (Nat.le_of_ble_eq_true rfl) ⟨Nat.zero_le _, Nat.zero_le _⟩ d_LI_step_68 (fun u => [(q, .inr (2, [.ref pa, .ref va, .ref na, .int (nI ((fm_new (fm_AT B 6 k 2) (fm_AT B 6 k 3) x r R).length - (min ((fm_AT B 6 k 2) / 4) ((fm_new (fm_AT B 6 k 2) (fm_AT B 6 k 3) x r R).length - 1)))), .int (nI (((fm_its D) ++ fm_its (fm_c0 ((fm_new (fm_AT B 6 k 2) (fm_AT B 6 k 3) x r R).take (min ((fm_AT B 6 k 2) / 4) ((fm_new (fm_AT B 6 k 2) (fm_AT B 6 k 3) x r R).length - 1))))).length))])), (pa, .inl (cI, 1066, .inl (u.1))), (va, .inl (cI, 1066, .inl (u.2.1))), (na, .inl (cZ, 1066, .inl (u.2.2))), (o, .inr (1, [.ref wa, .ref sa, .ref la, .int (nI (fm_HF B 2)), .int (nI (fm_HF B 3)), .int (nI (s0)), .int (nI (fm_z s0)), .int (nI (fm_h s0))])), (wa, .inl (cI, 2048, .inl (w))), (sa, .inl (cI, 10, .inl (st))), (la, .inl (cI, 10, .inl (ln)))]) [4, 5, 6, 7] (fun _ => rfl) (fun _ => rfl) (fun _ => show ∀ i, i < 8 → i ∈ ([0, 1, 2, 3] : List Nat) ∨ i ∈ ([4, 5, 6, 7] : List Nat) by decide) (by decide) (fun _ => rfl) (fun u hu H locs hP hD hS => ?_)
        obtain ⟨pd2, vl2, kn2⟩ := u
        have hu_68 : fm_PD pd2 ((fm_new (fm_AT B 6 k 2) (fm_AT B 6 k 3) x r R).drop (min ((fm_AT B 6 k 2) / 4) ((fm_new (fm_AT B 6 k 2) (fm_AT B 6 k 3) x r R).length - 1))) ∧ fm_CL vl2 kn2 ((fm_its D) ++ fm_its (fm_c0 ((fm_new (fm_AT B 6 k 2) (fm_AT B 6 k 3) x r R).take (min ((fm_AT B 6 k 2) / 4) ((fm_new (fm_AT B 6 k 2) (fm_AT B 6 k 3) x r R).length - 1))))) := hu
        have hP : va_P (dC, dI) classes [(q, .inr (2, [.ref pa, .ref va, .ref na, .int (nI ((fm_new (fm_AT B 6 k 2) (fm_AT B 6 k 3) x r R).length - (min ((fm_AT B 6 k 2) / 4) ((fm_new (fm_AT B 6 k 2) (fm_AT B 6 k 3) x r R).length - 1)))), .int (nI (((fm_its D) ++ fm_its (fm_c0 ((fm_new (fm_AT B 6 k 2) (fm_AT B 6 k 3) x r R).take (min ((fm_AT B 6 k 2) / 4) ((fm_new (fm_AT B 6 k 2) (fm_AT B 6 k 3) x r R).length - 1))))).length))])), (pa, .inl (cI, 1066, .inl (pd2))), (va, .inl (cI, 1066, .inl (vl2))), (na, .inl (cZ, 1066, .inl (kn2))), (o, .inr (1, [.ref wa, .ref sa, .ref la, .int (nI (fm_HF B 2)), .int (nI (fm_HF B 3)), .int (nI (s0)), .int (nI (fm_z s0)), .int (nI (fm_h s0))])), (wa, .inl (cI, 2048, .inl (w))), (sa, .inl (cI, 10, .inl (st))), (la, .inl (cI, 10, .inl (ln)))] _ := hP
        have hD : va_D A [(q, .inr (2, [.ref pa, .ref va, .ref na, .int (nI ((fm_new (fm_AT B 6 k 2) (fm_AT B 6 k 3) x r R).length - (min ((fm_AT B 6 k 2) / 4) ((fm_new (fm_AT B 6 k 2) (fm_AT B 6 k 3) x r R).length - 1)))), .int (nI (((fm_its D) ++ fm_its (fm_c0 ((fm_new (fm_AT B 6 k 2) (fm_AT B 6 k 3) x r R).take (min ((fm_AT B 6 k 2) / 4) ((fm_new (fm_AT B 6 k 2) (fm_AT B 6 k 3) x r R).length - 1))))).length))])), (pa, .inl (cI, 1066, .inl (pd2))), (va, .inl (cI, 1066, .inl (vl2))), (na, .inl (cZ, 1066, .inl (kn2))), (o, .inr (1, [.ref wa, .ref sa, .ref la, .int (nI (fm_HF B 2)), .int (nI (fm_HF B 3)), .int (nI (s0)), .int (nI (fm_z s0)), .int (nI (fm_h s0))])), (wa, .inl (cI, 2048, .inl (w))), (sa, .inl (cI, 10, .inl (st))), (la, .inl (cI, 10, .inl (ln)))] := hD
        exact W.vret hx hb hr (fun t ht hW => ⟨(pd2, vl2, kn2), (by rw [fm_stp_l hfd hk128]; exact ⟨hu_68.1, by rw [fm_its_app]; exact hu_68.2⟩), rfl, by rw [ht]; exact show va_P (dC, dI) classes [(q, .inr (2, [.ref pa, .ref va, .ref na, .int (nI ((fm_stp B s0 D (x :: r :: R)).2.length)), .int (nI ((fm_its (fm_stp B s0 D (x :: r :: R)).1).length))])), (pa, .inl (cI, 1066, .inl (pd2))), (va, .inl (cI, 1066, .inl (vl2))), (na, .inl (cZ, 1066, .inl (kn2))), (o, .inr (1, [.ref wa, .ref sa, .ref la, .int (nI (fm_HF B 2)), .int (nI (fm_HF B 3)), .int (nI (s0)), .int (nI (fm_z s0)), .int (nI (fm_h s0))])), (wa, .inl (cI, 2048, .inl (w))), (sa, .inl (cI, 10, .inl (st))), (la, .inl (cI, 10, .inl (ln)))] _ from (by rw [fm_stp_l hfd hk128, fm_its_app, List.length_drop]; exact hP), hS.F ht⟩) hS.2.2 d_LI_step_71
      · have c_38 : ¬ (fm_FAR B k < 32768) := fun z => c0 ((nI_ltI (a := fm_FAR B k) (b := 32768) (by omega) (by omega)).mpr z)
        have hk128 : 128 ≤ fm_AT B 6 k 2 := by omega
        have hkn := fm_V_kern hV hkw hsk hk128
        refine lv_aload_n hx hb d_LI_step_41 rfl (lv_at hl 3 rfl) ?_
        refine lv_iconst (v := nI (1)) hx hb d_LI_step_42 (by decide) ?_
        refine fm_xv S (c_LI_pass l dC dI q pa va na le co cI cZ pd vl kn (x :: r :: R) (fm_its D) 1 (hPD) (hle) (hCL) (hco) (by simp) (by simp only [List.length_cons]; omega) (hx256)) rfl rfl k_LI_pass q_3_68 ⟨Nat.le_of_ble_eq_true rfl, Nat.le_of_ble_eq_true rfl⟩ hP hD hS (hK.sub [0, 1] rfl) [0, 1, 2, 3] (by decide) rfl 0 rfl rfl rfl hl.1 rfl (Nat.le_of_ble_eq_true rfl) ⟨Nat.zero_le _, Nat.zero_le _⟩ d_LI_step_43 (fun u => [(q, .inr (2, [.ref pa, .ref va, .ref na, .int (nI ((x :: r :: R).length - 1)), .int (nI (((fm_its D) ++ fm_its (fm_c0 ((x :: r :: R).take 1))).length))])), (pa, .inl (cI, 1066, .inl (pd))), (va, .inl (cI, 1066, .inl (u.1))), (na, .inl (cZ, 1066, .inl (u.2))), (o, .inr (1, [.ref wa, .ref sa, .ref la, .int (nI (fm_HF B 2)), .int (nI (fm_HF B 3)), .int (nI (s0)), .int (nI (fm_z s0)), .int (nI (fm_h s0))])), (wa, .inl (cI, 2048, .inl (w))), (sa, .inl (cI, 10, .inl (st))), (la, .inl (cI, 10, .inl (ln)))]) [4, 5, 6, 7] (fun _ => rfl) (fun _ => rfl) (fun _ => show ∀ i, i < 8 → i ∈ ([0, 1, 2, 3] : List Nat) ∨ i ∈ ([4, 5, 6, 7] : List Nat) by decide) (by decide) (fun _ => rfl) (fun u hu H locs hP hD hS => ?_)
        obtain ⟨vl2, kn2⟩ := u
        have hu_43 : fm_CL vl2 kn2 ((fm_its D) ++ fm_its (fm_c0 ((x :: r :: R).take 1))) := hu
        have hP : va_P (dC, dI) classes [(q, .inr (2, [.ref pa, .ref va, .ref na, .int (nI ((x :: r :: R).length - 1)), .int (nI (((fm_its D) ++ fm_its (fm_c0 ((x :: r :: R).take 1))).length))])), (pa, .inl (cI, 1066, .inl (pd))), (va, .inl (cI, 1066, .inl (vl2))), (na, .inl (cZ, 1066, .inl (kn2))), (o, .inr (1, [.ref wa, .ref sa, .ref la, .int (nI (fm_HF B 2)), .int (nI (fm_HF B 3)), .int (nI (s0)), .int (nI (fm_z s0)), .int (nI (fm_h s0))])), (wa, .inl (cI, 2048, .inl (w))), (sa, .inl (cI, 10, .inl (st))), (la, .inl (cI, 10, .inl (ln)))] _ := hP
        have hD : va_D A [(q, .inr (2, [.ref pa, .ref va, .ref na, .int (nI ((x :: r :: R).length - 1)), .int (nI (((fm_its D) ++ fm_its (fm_c0 ((x :: r :: R).take 1))).length))])), (pa, .inl (cI, 1066, .inl (pd))), (va, .inl (cI, 1066, .inl (vl2))), (na, .inl (cZ, 1066, .inl (kn2))), (o, .inr (1, [.ref wa, .ref sa, .ref la, .int (nI (fm_HF B 2)), .int (nI (fm_HF B 3)), .int (nI (s0)), .int (nI (fm_z s0)), .int (nI (fm_h s0))])), (wa, .inl (cI, 2048, .inl (w))), (sa, .inl (cI, 10, .inl (st))), (la, .inl (cI, 10, .inl (ln)))] := hD
        refine lv_aload_n hx hb d_LI_step_46 rfl (lv_at hl 3 rfl) ?_
        refine lv_aload_n hx hb d_LI_step_47 rfl (lv_at hl 4 rfl) ?_
        refine lv_iload hx hb d_LI_step_48 (lv_at hl 0 rfl) ?_
        refine lv_ldc (own := R_LI) (v := nI (32768)) hx hb hown (ht _ q_3_76) d_LI_step_50 ?_
        refine lv_isub hx hb d_LI_step_52 ?_
        refine fm_tw (z := nI (256 * (fm_AT B 6 k 2 - 128) + fm_AT B 6 k 3)) (by rw [pk_sub (by omega)]; exact congrArg nI (by omega)) ?_
        refine fm_cv S (c_FO_kern l dC dI o wa sa la (nI (s0)) s0 cI B w st ln (256 * (fm_AT B 6 k 2 - 128) + fm_AT B 6 k 3) (hF) (hs) (hkn)) rfl rfl k_FO_kern q_3_77 ⟨Nat.le_of_ble_eq_true rfl, Nat.le_of_ble_eq_true rfl⟩ (hP.sub [4, 5, 6, 7] rfl) (hK.sub [0] rfl) 0 rfl rfl rfl hl.1 rfl (Nat.le_of_ble_eq_true rfl) ⟨Nat.zero_le _, Nat.zero_le _⟩ d_LI_step_53 ?_
        refine lv_iconst (v := nI (1)) hx hb d_LI_step_56 (by decide) ?_
        refine fm_wv S (c_LI_append l dC dI q pa va na (nI ((x :: r :: R).length - 1)) (((fm_its D) ++ fm_its (fm_c0 ((x :: r :: R).take 1))).length) cI cZ vl2 kn2 (fm_sc B s0 7 (256 * (fm_AT B 6 k 2 - 128) + fm_AT B 6 k 3)) true (by have h9 := fm_its_len (fm_c0 ((x :: r :: R).take 1)); simp only [List.length_append, fm_c0_len, List.length_take, List.length_cons] at *; omega)) rfl rfl k_LI_append q_3_72 ⟨Nat.le_of_ble_eq_true rfl, Nat.le_of_ble_eq_true rfl⟩ hP hD hS (hK.sub [0, 1] rfl) [0, 2, 3] (by decide) rfl 0 rfl rfl rfl hl.1 rfl (Nat.le_of_ble_eq_true rfl) ⟨Nat.zero_le _, Nat.zero_le _⟩ d_LI_step_57 [(q, .inr (2, [.ref pa, .ref va, .ref na, .int (nI ((x :: r :: R).length - 1)), .int (nI ((((fm_its D) ++ fm_its (fm_c0 ((x :: r :: R).take 1))).length) + 1))])), (pa, .inl (cI, 1066, .inl (pd))), (va, .inl (cI, 1066, .inl (upd vl2 (((fm_its D) ++ fm_its (fm_c0 ((x :: r :: R).take 1))).length) (fm_sc B s0 7 (256 * (fm_AT B 6 k 2 - 128) + fm_AT B 6 k 3))))), (na, .inl (cZ, 1066, .inl (upd kn2 (((fm_its D) ++ fm_its (fm_c0 ((x :: r :: R).take 1))).length) (fm_bI true)))), (o, .inr (1, [.ref wa, .ref sa, .ref la, .int (nI (fm_HF B 2)), .int (nI (fm_HF B 3)), .int (nI (s0)), .int (nI (fm_z s0)), .int (nI (fm_h s0))])), (wa, .inl (cI, 2048, .inl (w))), (sa, .inl (cI, 10, .inl (st))), (la, .inl (cI, 10, .inl (ln)))] [1, 4, 5, 6, 7] rfl rfl (show ∀ i, i < 8 → i ∈ ([0, 2, 3] : List Nat) ∨ i ∈ ([1, 4, 5, 6, 7] : List Nat) by decide) (by decide) rfl (fun H locs hP hD hS => ?_)
        have hP : va_P (dC, dI) classes [(q, .inr (2, [.ref pa, .ref va, .ref na, .int (nI ((x :: r :: R).length - 1)), .int (nI ((((fm_its D) ++ fm_its (fm_c0 ((x :: r :: R).take 1))).length) + 1))])), (pa, .inl (cI, 1066, .inl (pd))), (va, .inl (cI, 1066, .inl (upd vl2 (((fm_its D) ++ fm_its (fm_c0 ((x :: r :: R).take 1))).length) (fm_sc B s0 7 (256 * (fm_AT B 6 k 2 - 128) + fm_AT B 6 k 3))))), (na, .inl (cZ, 1066, .inl (upd kn2 (((fm_its D) ++ fm_its (fm_c0 ((x :: r :: R).take 1))).length) (fm_bI true)))), (o, .inr (1, [.ref wa, .ref sa, .ref la, .int (nI (fm_HF B 2)), .int (nI (fm_HF B 3)), .int (nI (s0)), .int (nI (fm_z s0)), .int (nI (fm_h s0))])), (wa, .inl (cI, 2048, .inl (w))), (sa, .inl (cI, 10, .inl (st))), (la, .inl (cI, 10, .inl (ln)))] _ := hP
        have hD : va_D A [(q, .inr (2, [.ref pa, .ref va, .ref na, .int (nI ((x :: r :: R).length - 1)), .int (nI ((((fm_its D) ++ fm_its (fm_c0 ((x :: r :: R).take 1))).length) + 1))])), (pa, .inl (cI, 1066, .inl (pd))), (va, .inl (cI, 1066, .inl (upd vl2 (((fm_its D) ++ fm_its (fm_c0 ((x :: r :: R).take 1))).length) (fm_sc B s0 7 (256 * (fm_AT B 6 k 2 - 128) + fm_AT B 6 k 3))))), (na, .inl (cZ, 1066, .inl (upd kn2 (((fm_its D) ++ fm_its (fm_c0 ((x :: r :: R).take 1))).length) (fm_bI true)))), (o, .inr (1, [.ref wa, .ref sa, .ref la, .int (nI (fm_HF B 2)), .int (nI (fm_HF B 3)), .int (nI (s0)), .int (nI (fm_z s0)), .int (nI (fm_h s0))])), (wa, .inl (cI, 2048, .inl (w))), (sa, .inl (cI, 10, .inl (st))), (la, .inl (cI, 10, .inl (ln)))] := hD
        have eK : (fm_its (D ++ [((x, 0) : Nat × Int32), (257, fm_sc B s0 7 (256 * (fm_AT B 6 k 2 - 128) + fm_AT B 6 k 3))])).length = (fm_its D ++ fm_its (fm_c0 ((x :: r :: R).take 1))).length + 1 := by rw [show D ++ [((x, 0) : Nat × Int32), (257, fm_sc B s0 7 (256 * (fm_AT B 6 k 2 - 128) + fm_AT B 6 k 3))] = (D ++ [(x, 0)]) ++ [(257, fm_sc B s0 7 (256 * (fm_AT B 6 k 2 - 128) + fm_AT B 6 k 3))] by simp, fm_its_app, fm_its_app, fm_its_c (q := (257, fm_sc B s0 7 (256 * (fm_AT B 6 k 2 - 128) + fm_AT B 6 k 3))) (show ¬ (257 : Nat) = 256 by decide)]; simp only [List.length_append]; rfl
        have hCLk := fm_CL_app hu_43 (257, fm_sc B s0 7 (256 * (fm_AT B 6 k 2 - 128) + fm_AT B 6 k 3)) (v := fm_sc B s0 7 (256 * (fm_AT B 6 k 2 - 128) + fm_AT B 6 k 3)) (b := true) (by rw [if_pos rfl]) rfl
        rw [show (fm_its D ++ fm_its (fm_c0 ((x :: r :: R).take 1))) ++ [((257, fm_sc B s0 7 (256 * (fm_AT B 6 k 2 - 128) + fm_AT B 6 k 3)) : Nat × Int32)] = fm_its (D ++ [(x, 0), (257, fm_sc B s0 7 (256 * (fm_AT B 6 k 2 - 128) + fm_AT B 6 k 3))]) by rw [show D ++ [((x, 0) : Nat × Int32), (257, fm_sc B s0 7 (256 * (fm_AT B 6 k 2 - 128) + fm_AT B 6 k 3))] = (D ++ [(x, 0)]) ++ [(257, fm_sc B s0 7 (256 * (fm_AT B 6 k 2 - 128) + fm_AT B 6 k 3))] by simp, fm_its_app, fm_its_app, fm_its_c (q := (257, fm_sc B s0 7 (256 * (fm_AT B 6 k 2 - 128) + fm_AT B 6 k 3))) (show ¬ (257 : Nat) = 256 by decide)]; rfl] at hCLk
        refine lv_goto (tgt := 71) hx hb d_LI_step_60 (by decide) ?_
        exact W.vret hx hb hr (fun t ht hW => ⟨(pd, upd vl2 (((fm_its D) ++ fm_its (fm_c0 ((x :: r :: R).take 1))).length) (fm_sc B s0 7 (256 * (fm_AT B 6 k 2 - 128) + fm_AT B 6 k 3)), upd kn2 (((fm_its D) ++ fm_its (fm_c0 ((x :: r :: R).take 1))).length) (fm_bI true)), (by rw [fm_stp_k hfd hk128]; exact ⟨fm_PD_drop hPD 1, hCLk⟩), rfl, by rw [ht]; exact show va_P (dC, dI) classes [(q, .inr (2, [.ref pa, .ref va, .ref na, .int (nI ((fm_stp B s0 D (x :: r :: R)).2.length)), .int (nI ((fm_its (fm_stp B s0 D (x :: r :: R)).1).length))])), (pa, .inl (cI, 1066, .inl (pd))), (va, .inl (cI, 1066, .inl (upd vl2 (((fm_its D) ++ fm_its (fm_c0 ((x :: r :: R).take 1))).length) (fm_sc B s0 7 (256 * (fm_AT B 6 k 2 - 128) + fm_AT B 6 k 3))))), (na, .inl (cZ, 1066, .inl (upd kn2 (((fm_its D) ++ fm_its (fm_c0 ((x :: r :: R).take 1))).length) (fm_bI true)))), (o, .inr (1, [.ref wa, .ref sa, .ref la, .int (nI (fm_HF B 2)), .int (nI (fm_HF B 3)), .int (nI (s0)), .int (nI (fm_z s0)), .int (nI (fm_h s0))])), (wa, .inl (cI, 2048, .inl (w))), (sa, .inl (cI, 10, .inl (st))), (la, .inl (cI, 10, .inl (ln)))] _ from (by rw [fm_stp_k hfd hk128, eK]; exact hP), hS.F ht⟩) hS.2.2 d_LI_step_71
    · have c_23 := c0
      exact absurd (show nI (fm_FAR B k) < 0 by rw [c_23]; decide) (nI_pos (by omega))
theorem d_LI_run_0 : decode b_LI_run 0 = .ok (.iconst 0, 1) := by decide +kernel
theorem d_LI_run_1 : decode b_LI_run 1 = .ok (.istore_n 2, 1) := by decide +kernel
theorem d_LI_run_2 : decode b_LI_run 2 = .ok (.iload_n 2, 1) := by decide +kernel
theorem d_LI_run_3 : decode b_LI_run 3 = .ok (.sipush 1000, 3) := by decide +kernel
theorem d_LI_run_6 : decode b_LI_run 6 = .ok (.if_icmp .ge 22, 3) := by decide +kernel
theorem d_LI_run_9 : decode b_LI_run 9 = .ok (.aload_n 0, 1) := by decide +kernel
theorem d_LI_run_10 : decode b_LI_run 10 = .ok (.getfield 22, 3) := by decide +kernel
theorem d_LI_run_13 : decode b_LI_run 13 = .ok (.iconst 1, 1) := by decide +kernel
theorem d_LI_run_14 : decode b_LI_run 14 = .ok (.if_icmp .le 14, 3) := by decide +kernel
theorem d_LI_run_17 : decode b_LI_run 17 = .ok (.aload_n 0, 1) := by decide +kernel
theorem d_LI_run_18 : decode b_LI_run 18 = .ok (.aload_n 1, 1) := by decide +kernel
theorem d_LI_run_19 : decode b_LI_run 19 = .ok (.invokevirtual 48, 3) := by decide +kernel
theorem d_LI_run_22 : decode b_LI_run 22 = .ok (.iinc 2 1, 3) := by decide +kernel
theorem d_LI_run_25 : decode b_LI_run 25 = .ok (.goto (-23), 3) := by decide +kernel
theorem d_LI_run_28 : decode b_LI_run 28 = .ok (.aload_n 0, 1) := by decide +kernel
theorem d_LI_run_29 : decode b_LI_run 29 = .ok (.getfield 22, 3) := by decide +kernel
theorem d_LI_run_32 : decode b_LI_run 32 = .ok (.iconst 1, 1) := by decide +kernel
theorem d_LI_run_33 : decode b_LI_run 33 = .ok (.if_icmp .le 9, 3) := by decide +kernel
theorem d_LI_run_36 : decode b_LI_run 36 = .ok (.aload_n 0, 1) := by decide +kernel
theorem d_LI_run_37 : decode b_LI_run 37 = .ok (.invokevirtual 52, 3) := by decide +kernel
theorem d_LI_run_40 : decode b_LI_run 40 = .ok (.iconst 0, 1) := by decide +kernel
theorem d_LI_run_41 : decode b_LI_run 41 = .ok (.ireturn, 1) := by decide +kernel
theorem d_LI_run_42 : decode b_LI_run 42 = .ok (.aload_n 0, 1) := by decide +kernel
theorem d_LI_run_43 : decode b_LI_run 43 = .ok (.aload_n 0, 1) := by decide +kernel
theorem d_LI_run_44 : decode b_LI_run 44 = .ok (.getfield 22, 3) := by decide +kernel
theorem d_LI_run_47 : decode b_LI_run 47 = .ok (.invokevirtual 55, 3) := by decide +kernel
theorem d_LI_run_50 : decode b_LI_run 50 = .ok (.iconst 1, 1) := by decide +kernel
theorem d_LI_run_51 : decode b_LI_run 51 = .ok (.ireturn, 1) := by decide +kernel
set_option maxHeartbeats 4000000 in
set_option maxRecDepth 100000 in
theorem c_LI_run (l : Launch) (dC : Nat → ClassId) (dI : Nat → Nat → Nat) (q : Nat) (pa : Nat) (va : Nat) (na : Nat) (le : Nat) (co : Nat) (cI : ClassId) (cZ : ClassId) (pd : Nat → Int32) (vl : Nat → Int32) (kn : Nat → Int32) (T0 : List Nat) (o : Nat) (wa : Nat) (sa : Nat) (la : Nat) (s0 : Nat) (B : Nat → Nat) (w : Nat → Int32) (st : Nat → Int32) (ln : Nat → Int32) (hF : fm_FO B w st ln) (hV : fm_V B) (hs : s0 < 134217728) (hPD : fm_PD pd T0) (hle : le = T0.length) (hco : co = 0) (hT66 : T0.length ≤ 66) (hok : fm_ok B T0) : fm_MX (S := (Nat → Int32) × (Nat → Int32) × (Nat → Int32)) l (dC, dI) y_LI_run w_LI_run ({ frames := 5, cells := 0, slots := 0, locals := 120 }) [.ref q, .ref o] [(q, .inr (2, [.ref pa, .ref va, .ref na, .int (nI (le)), .int (nI (co))])), (pa, .inl (cI, 1066, .inl (pd))), (va, .inl (cI, 1066, .inl (vl))), (na, .inl (cZ, 1066, .inl (kn))), (o, .inr (1, [.ref wa, .ref sa, .ref la, .int (nI (fm_HF B 2)), .int (nI (fm_HF B 3)), .int (nI (s0)), .int (nI (fm_z s0)), .int (nI (fm_h s0))])), (wa, .inl (cI, 2048, .inl (w))), (sa, .inl (cI, 10, .inl (st))), (la, .inl (cI, 10, .inl (ln)))] [(cI, .int), (cZ, .boolean)] (fun u => ∀ L, (fm_set B s0 T0) = some L → fm_CL u.2.1 u.2.2 L) (fun u => (some (.int (fm_bI ((fm_set B s0 T0)).isSome)))) (fun u => [(q, .inr (2, [.ref pa, .ref va, .ref na, .int (nI (0)), .int (nI (fm_sN (fm_set B s0 T0)))])), (pa, .inl (cI, 1066, .inl (u.1))), (va, .inl (cI, 1066, .inl (u.2.1))), (na, .inl (cZ, 1066, .inl (u.2.2))), (o, .inr (1, [.ref wa, .ref sa, .ref la, .int (nI (fm_HF B 2)), .int (nI (fm_HF B 3)), .int (nI (s0)), .int (nI (fm_z s0)), .int (nI (fm_h s0))])), (wa, .inl (cI, 2048, .inl (w))), (sa, .inl (cI, 10, .inl (st))), (la, .inl (cI, 10, .inl (ln)))]) := by
  refine Met.ofW (cc := b_LI_run) (maxL := 3) (ret := (some .boolean)) (by decide) rfl ?_
  intro pg ev s m args below meth cd s₁ BD hml hv
  obtain ⟨rfl, hP, hK, hD0⟩ := hv
  have hx := BD.exec
  have hb := BD.bytes
  have hr := BD.returns
  have hts := atoms_spec (ws := w_LI_run) BD.pre
  have ht : ∀ w ∈ fm_T, w.before _ s = true := fun w h => hts w (List.mem_cons_of_mem _ h)
  have hown : s.vm.findClass R_LI = some m.cls := findClass_of_methodNamed BD.named
  have hlocks := BD.notSynchronized
  have S : CallFix pg m cd b_LI_run 3 s _ w_LI_run R_LI := ⟨hx, hb, hml, hown, hts⟩
  have hD := fm_selfD hD0
  generalize fm_A [(q, .inr (2, [.ref pa, .ref va, .ref na, .int (nI (le)), .int (nI (co))])), (pa, .inl (cI, 1066, .inl (pd))), (va, .inl (cI, 1066, .inl (vl))), (na, .inl (cZ, 1066, .inl (kn))), (o, .inr (1, [.ref wa, .ref sa, .ref la, .int (nI (fm_HF B 2)), .int (nI (fm_HF B 3)), .int (nI (s0)), .int (nI (fm_z s0)), .int (nI (fm_h s0))])), (wa, .inl (cI, 2048, .inl (w))), (sa, .inl (cI, 10, .inl (st))), (la, .inl (cI, 10, .inl (ln)))] = A at hD ⊢
  have hS : va_S A s.heap s.heap [] := va_S.rf
  have hl := lv_entry ([.ref q, .ref o]) (n := 3) (Nat.le_of_ble_eq_true rfl)
  rw [lg_entry_eq]
  generalize (lg_sl ([.ref q, .ref o]) ++ List.replicate (3 - (lg_sl ([.ref q, .ref o])).length) Slot.unset).toArray = ls at hl ⊢
  have hl : lv_has ls 3 [(0, .ref q), (1, .ref o)] := hl
  have hB : ∀ i, B i < 256 := hF.1.1
  obtain ⟨hL, hFw, hFs, hFl⟩ := id hF
  obtain ⟨-, hq, h3, h10⟩ := id hL
  refine lv_iconst (v := nI (0)) hx hb d_LI_run_0 (by decide) ?_
  refine lv_istore_n (lv' := [(2, .int (nI (0))), (0, .ref q), (1, .ref o)]) hx hb d_LI_run_1 rfl hl (by decide) rfl (fun ls hl => ?_)
  refine fm_wloop6 (nL := 3) (LV := fun (a : Nat) (D : List (Nat × Int32)) (T : List Nat) (pd2 : Nat → Int32) (vl2 : Nat → Int32) (kn2 : Nat → Int32) => [(0, .ref q), (1, .ref o), (2, .int (nI (a)))]) (WS := fun (a : Nat) (D : List (Nat × Int32)) (T : List Nat) (pd2 : Nat → Int32) (vl2 : Nat → Int32) (kn2 : Nat → Int32) => [(q, .inr (2, [.ref pa, .ref va, .ref na, .int (nI (T.length)), .int (nI ((fm_its D).length))])), (pa, .inl (cI, 1066, .inl (pd2))), (va, .inl (cI, 1066, .inl (vl2))), (na, .inl (cZ, 1066, .inl (kn2))), (o, .inr (1, [.ref wa, .ref sa, .ref la, .int (nI (fm_HF B 2)), .int (nI (fm_HF B 3)), .int (nI (s0)), .int (nI (fm_z s0)), .int (nI (fm_h s0))])), (wa, .inl (cI, 2048, .inl (w))), (sa, .inl (cI, 10, .inl (st))), (la, .inl (cI, 10, .inl (ln)))]) (I := fun (a : Nat) (D : List (Nat × Int32)) (T : List Nat) (pd2 : Nat → Int32) (vl2 : Nat → Int32) (kn2 : Nat → Int32) => a ≤ 1000 ∧ fm_PD pd2 T ∧ fm_CL vl2 kn2 (fm_its D) ∧ fm_ok B T ∧ D.length + T.length ≤ 66 + a ∧ fm_run B s0 (1000 - a) D T = fm_run B s0 1000 [] T0) (μ := fun (a : Nat) (D : List (Nat × Int32)) (T : List Nat) (pd2 : Nat → Int32) (vl2 : Nat → Int32) (kn2 : Nat → Int32) => 1000 - a) ?_ 0 ([]) T0 pd vl kn (⟨by decide, hPD, fm_CL_nil vl kn, hok, by simp only [List.length_nil]; omega, rfl⟩) (by rw [hle, hco] at hP; exact hP) (by rw [hle, hco] at hD; exact hD) hS ls (lv_sub hl [1, 2, 0] rfl)
  intro a D T pd2 vl2 kn2 hI_2 ih_2 H locs ls hP hD hS hl
  have hl : lv_has ls 3 [(0, .ref q), (1, .ref o), (2, .int (nI (a)))] := hl
  have hP : va_P (dC, dI) classes [(q, .inr (2, [.ref pa, .ref va, .ref na, .int (nI (T.length)), .int (nI ((fm_its D).length))])), (pa, .inl (cI, 1066, .inl (pd2))), (va, .inl (cI, 1066, .inl (vl2))), (na, .inl (cZ, 1066, .inl (kn2))), (o, .inr (1, [.ref wa, .ref sa, .ref la, .int (nI (fm_HF B 2)), .int (nI (fm_HF B 3)), .int (nI (s0)), .int (nI (fm_z s0)), .int (nI (fm_h s0))])), (wa, .inl (cI, 2048, .inl (w))), (sa, .inl (cI, 10, .inl (st))), (la, .inl (cI, 10, .inl (ln)))] _ := hP
  have hD : va_D A [(q, .inr (2, [.ref pa, .ref va, .ref na, .int (nI (T.length)), .int (nI ((fm_its D).length))])), (pa, .inl (cI, 1066, .inl (pd2))), (va, .inl (cI, 1066, .inl (vl2))), (na, .inl (cZ, 1066, .inl (kn2))), (o, .inr (1, [.ref wa, .ref sa, .ref la, .int (nI (fm_HF B 2)), .int (nI (fm_HF B 3)), .int (nI (s0)), .int (nI (fm_z s0)), .int (nI (fm_h s0))])), (wa, .inl (cI, 2048, .inl (w))), (sa, .inl (cI, 10, .inl (st))), (la, .inl (cI, 10, .inl (ln)))] := hD
  obtain ⟨ha, hPD2, hCL2, hok2, hsz, hrun⟩ := hI_2
  have hiD := fm_its_len D
  refine lv_iload_n hx hb d_LI_run_2 rfl (lv_at hl 2 rfl) ?_
  refine lv_sipush (v := nI (1000)) hx hb d_LI_run_3 (by decide) ?_
  refine lv_icmp_ge (tgt := 28) hx hb d_LI_run_6 (by decide) (fun c0 => ?_) (fun c0 => ?_)
  · have c_6 : 1000 ≤ a := (nI_leI (a := 1000) (b := a) (by omega) (by omega)).mp c0
    refine lv_aload_n hx hb d_LI_run_28 rfl (lv_at hl 0 rfl) ?_
    refine va_get (D := (dC, dI)) (ci := 2) (v := .int (nI (T.length))) (C := R_LI) (T := F_LI) (N := 5) hx hb ht i_LI hown hK hP 0 rfl rfl 3 (by decide) (ht _ q_1_48) (fun _ h9 => h9) rfl d_LI_run_29 ?_
    refine lv_iconst (v := nI (1)) hx hb d_LI_run_32 (by decide) ?_
    refine lv_icmp_le (tgt := 42) hx hb d_LI_run_33 (by decide) (fun c0 => ?_) (fun c0 => ?_)
    · have c_33 : T.length ≤ 1 := (nI_leI (a := T.length) (b := 1) (by omega) (by omega)).mp c0
      have hT1 : T.length ≤ 1 := by omega
      rw [fm_run_end hT1] at hrun
      have hset : (fm_set B s0 T0) = some (fm_its (D ++ fm_c0 T)) := by unfold fm_set; rw [← hrun]; rfl
      have hfinal := fm_its_app D (fm_c0 T)
      have hT256 : ∀ c ∈ T, c ≤ 256 := fun c hc => fm_le256 hL (hok2 c hc)
      refine lv_aload_n hx hb d_LI_run_42 rfl (lv_at hl 0 rfl) ?_
      refine lv_aload_n hx hb d_LI_run_43 rfl (lv_at hl 0 rfl) ?_
      refine va_get (D := (dC, dI)) (ci := 2) (v := .int (nI (T.length))) (C := R_LI) (T := F_LI) (N := 5) hx hb ht i_LI hown hK hP 0 rfl rfl 3 (by decide) (ht _ q_1_48) (fun _ h9 => h9) rfl d_LI_run_44 ?_
      refine fm_xv S (c_LI_pass l dC dI q pa va na T.length ((fm_its D).length) cI cZ pd2 vl2 kn2 T (fm_its D) T.length (hPD2) (rfl) (hCL2) (rfl) (Nat.le_refl _) (by omega) (hT256)) rfl rfl k_LI_pass q_3_68 ⟨Nat.le_of_ble_eq_true rfl, Nat.le_of_ble_eq_true rfl⟩ hP hD hS (hK.sub [0, 1] rfl) [0, 1, 2, 3] (by decide) rfl 0 rfl rfl rfl hl.1 rfl (Nat.le_of_ble_eq_true rfl) ⟨Nat.zero_le _, Nat.zero_le _⟩ d_LI_run_47 (fun u => [(q, .inr (2, [.ref pa, .ref va, .ref na, .int (nI (T.length - T.length)), .int (nI (((fm_its D) ++ fm_its (fm_c0 (T.take T.length))).length))])), (pa, .inl (cI, 1066, .inl (pd2))), (va, .inl (cI, 1066, .inl (u.1))), (na, .inl (cZ, 1066, .inl (u.2))), (o, .inr (1, [.ref wa, .ref sa, .ref la, .int (nI (fm_HF B 2)), .int (nI (fm_HF B 3)), .int (nI (s0)), .int (nI (fm_z s0)), .int (nI (fm_h s0))])), (wa, .inl (cI, 2048, .inl (w))), (sa, .inl (cI, 10, .inl (st))), (la, .inl (cI, 10, .inl (ln)))]) [4, 5, 6, 7] (fun _ => rfl) (fun _ => rfl) (fun _ => show ∀ i, i < 8 → i ∈ ([0, 1, 2, 3] : List Nat) ∨ i ∈ ([4, 5, 6, 7] : List Nat) by decide) (by decide) (fun _ => rfl) (fun u hu H locs hP hD hS => ?_)
      obtain ⟨vl4, kn4⟩ := u
      have hu_47 : fm_CL vl4 kn4 ((fm_its D) ++ fm_its (fm_c0 (T.take T.length))) := hu
      have hP : va_P (dC, dI) classes [(q, .inr (2, [.ref pa, .ref va, .ref na, .int (nI (T.length - T.length)), .int (nI (((fm_its D) ++ fm_its (fm_c0 (T.take T.length))).length))])), (pa, .inl (cI, 1066, .inl (pd2))), (va, .inl (cI, 1066, .inl (vl4))), (na, .inl (cZ, 1066, .inl (kn4))), (o, .inr (1, [.ref wa, .ref sa, .ref la, .int (nI (fm_HF B 2)), .int (nI (fm_HF B 3)), .int (nI (s0)), .int (nI (fm_z s0)), .int (nI (fm_h s0))])), (wa, .inl (cI, 2048, .inl (w))), (sa, .inl (cI, 10, .inl (st))), (la, .inl (cI, 10, .inl (ln)))] _ := hP
      have hD : va_D A [(q, .inr (2, [.ref pa, .ref va, .ref na, .int (nI (T.length - T.length)), .int (nI (((fm_its D) ++ fm_its (fm_c0 (T.take T.length))).length))])), (pa, .inl (cI, 1066, .inl (pd2))), (va, .inl (cI, 1066, .inl (vl4))), (na, .inl (cZ, 1066, .inl (kn4))), (o, .inr (1, [.ref wa, .ref sa, .ref la, .int (nI (fm_HF B 2)), .int (nI (fm_HF B 3)), .int (nI (s0)), .int (nI (fm_z s0)), .int (nI (fm_h s0))])), (wa, .inl (cI, 2048, .inl (w))), (sa, .inl (cI, 10, .inl (st))), (la, .inl (cI, 10, .inl (ln)))] := hD
      refine lv_iconst (v := nI (1)) hx hb d_LI_run_50 (by decide) ?_
      exact W.zret (ty := .boolean) hx hb hr (rfl) (fun t ht hW => ⟨(pd2, vl4, kn4), (fun L hL9 => by rw [hset] at hL9; cases hL9; rw [hfinal]; rw [List.take_length] at hu_47; exact hu_47), congrArg (fun z => Outcome.returned (some (Value.int z))) (by rw [hset]; rfl), by rw [ht]; exact show va_P (dC, dI) classes [(q, .inr (2, [.ref pa, .ref va, .ref na, .int (nI (0)), .int (nI (fm_sN (fm_set B s0 T0)))])), (pa, .inl (cI, 1066, .inl (pd2))), (va, .inl (cI, 1066, .inl (vl4))), (na, .inl (cZ, 1066, .inl (kn4))), (o, .inr (1, [.ref wa, .ref sa, .ref la, .int (nI (fm_HF B 2)), .int (nI (fm_HF B 3)), .int (nI (s0)), .int (nI (fm_z s0)), .int (nI (fm_h s0))])), (wa, .inl (cI, 2048, .inl (w))), (sa, .inl (cI, 10, .inl (st))), (la, .inl (cI, 10, .inl (ln)))] _ from (by rw [hset]; show va_P (dC, dI) classes [(q, .inr (2, [.ref pa, .ref va, .ref na, .int (nI (0)), .int (nI ((fm_its (D ++ fm_c0 T)).length))])), (pa, .inl (cI, 1066, .inl (pd2))), (va, .inl (cI, 1066, .inl (vl4))), (na, .inl (cZ, 1066, .inl (kn4))), (o, .inr (1, [.ref wa, .ref sa, .ref la, .int (nI (fm_HF B 2)), .int (nI (fm_HF B 3)), .int (nI (s0)), .int (nI (fm_z s0)), .int (nI (fm_h s0))])), (wa, .inl (cI, 2048, .inl (w))), (sa, .inl (cI, 10, .inl (st))), (la, .inl (cI, 10, .inl (ln)))] _; rw [hfinal]; rw [Nat.sub_self, List.take_length] at hP; exact hP), hS.F ht⟩) hS.2.2 d_LI_run_51
    · have c_33 : ¬ (T.length ≤ 1) := fun z => c0 ((nI_leI (a := T.length) (b := 1) (by omega) (by omega)).mpr z)
      have ha0 : a = 1000 := by omega
      rw [ha0, fm_run_0 c_33] at hrun
      have hset : (fm_set B s0 T0) = none := by unfold fm_set; rw [← hrun]; rfl
      refine lv_aload_n hx hb d_LI_run_36 rfl (lv_at hl 0 rfl) ?_
      refine fm_wv S (c_LI_clear l dC dI q pa va na (nI (T.length)) (nI ((fm_its D).length)) ) rfl rfl k_LI_clear q_3_85 ⟨Nat.le_of_ble_eq_true rfl, Nat.le_of_ble_eq_true rfl⟩ hP hD hS (hK.sub [] rfl) [0] (by decide) rfl 0 rfl rfl rfl hl.1 rfl (Nat.le_of_ble_eq_true rfl) ⟨Nat.zero_le _, Nat.zero_le _⟩ d_LI_run_37 [(q, .inr (2, [.ref pa, .ref va, .ref na, .int (nI (0)), .int (nI (0))])), (pa, .inl (cI, 1066, .inl (pd2))), (va, .inl (cI, 1066, .inl (vl2))), (na, .inl (cZ, 1066, .inl (kn2))), (o, .inr (1, [.ref wa, .ref sa, .ref la, .int (nI (fm_HF B 2)), .int (nI (fm_HF B 3)), .int (nI (s0)), .int (nI (fm_z s0)), .int (nI (fm_h s0))])), (wa, .inl (cI, 2048, .inl (w))), (sa, .inl (cI, 10, .inl (st))), (la, .inl (cI, 10, .inl (ln)))] [1, 2, 3, 4, 5, 6, 7] rfl rfl (show ∀ i, i < 8 → i ∈ ([0] : List Nat) ∨ i ∈ ([1, 2, 3, 4, 5, 6, 7] : List Nat) by decide) (by decide) rfl (fun H locs hP hD hS => ?_)
      have hP : va_P (dC, dI) classes [(q, .inr (2, [.ref pa, .ref va, .ref na, .int (nI (0)), .int (nI (0))])), (pa, .inl (cI, 1066, .inl (pd2))), (va, .inl (cI, 1066, .inl (vl2))), (na, .inl (cZ, 1066, .inl (kn2))), (o, .inr (1, [.ref wa, .ref sa, .ref la, .int (nI (fm_HF B 2)), .int (nI (fm_HF B 3)), .int (nI (s0)), .int (nI (fm_z s0)), .int (nI (fm_h s0))])), (wa, .inl (cI, 2048, .inl (w))), (sa, .inl (cI, 10, .inl (st))), (la, .inl (cI, 10, .inl (ln)))] _ := hP
      have hD : va_D A [(q, .inr (2, [.ref pa, .ref va, .ref na, .int (nI (0)), .int (nI (0))])), (pa, .inl (cI, 1066, .inl (pd2))), (va, .inl (cI, 1066, .inl (vl2))), (na, .inl (cZ, 1066, .inl (kn2))), (o, .inr (1, [.ref wa, .ref sa, .ref la, .int (nI (fm_HF B 2)), .int (nI (fm_HF B 3)), .int (nI (s0)), .int (nI (fm_z s0)), .int (nI (fm_h s0))])), (wa, .inl (cI, 2048, .inl (w))), (sa, .inl (cI, 10, .inl (st))), (la, .inl (cI, 10, .inl (ln)))] := hD
      refine lv_iconst (v := nI (0)) hx hb d_LI_run_40 (by decide) ?_
      exact W.zret (ty := .boolean) hx hb hr (rfl) (fun t ht hW => ⟨(pd2, vl2, kn2), (fun L hL9 => by rw [hset] at hL9; cases hL9), congrArg (fun z => Outcome.returned (some (Value.int z))) (by rw [hset]; rfl), by rw [ht]; exact show va_P (dC, dI) classes [(q, .inr (2, [.ref pa, .ref va, .ref na, .int (nI (0)), .int (nI (fm_sN (fm_set B s0 T0)))])), (pa, .inl (cI, 1066, .inl (pd2))), (va, .inl (cI, 1066, .inl (vl2))), (na, .inl (cZ, 1066, .inl (kn2))), (o, .inr (1, [.ref wa, .ref sa, .ref la, .int (nI (fm_HF B 2)), .int (nI (fm_HF B 3)), .int (nI (s0)), .int (nI (fm_z s0)), .int (nI (fm_h s0))])), (wa, .inl (cI, 2048, .inl (w))), (sa, .inl (cI, 10, .inl (st))), (la, .inl (cI, 10, .inl (ln)))] _ from (by rw [hset]; exact hP), hS.F ht⟩) hS.2.2 d_LI_run_41
  · have c_6 : ¬ (1000 ≤ a) := fun z => c0 ((nI_leI (a := 1000) (b := a) (by omega) (by omega)).mpr z)
    refine lv_aload_n hx hb d_LI_run_9 rfl (lv_at hl 0 rfl) ?_
    refine va_get (D := (dC, dI)) (ci := 2) (v := .int (nI (T.length))) (C := R_LI) (T := F_LI) (N := 5) hx hb ht i_LI hown hK hP 0 rfl rfl 3 (by decide) (ht _ q_1_48) (fun _ h9 => h9) rfl d_LI_run_10 ?_
    refine lv_iconst (v := nI (1)) hx hb d_LI_run_13 (by decide) ?_
    refine lv_icmp_le (tgt := 28) hx hb d_LI_run_14 (by decide) (fun c0 => ?_) (fun c0 => ?_)
    · have c_14 : T.length ≤ 1 := (nI_leI (a := T.length) (b := 1) (by omega) (by omega)).mp c0
      refine lv_aload_n hx hb d_LI_run_28 rfl (lv_at hl 0 rfl) ?_
      refine va_get (D := (dC, dI)) (ci := 2) (v := .int (nI (T.length))) (C := R_LI) (T := F_LI) (N := 5) hx hb ht i_LI hown hK hP 0 rfl rfl 3 (by decide) (ht _ q_1_48) (fun _ h9 => h9) rfl d_LI_run_29 ?_
      refine lv_iconst (v := nI (1)) hx hb d_LI_run_32 (by decide) ?_
      refine lv_icmp_le (tgt := 42) hx hb d_LI_run_33 (by decide) (fun c0 => ?_) (fun c0 => ?_)
      · have c_33 : T.length ≤ 1 := (nI_leI (a := T.length) (b := 1) (by omega) (by omega)).mp c0
        have hT1 : T.length ≤ 1 := by omega
        rw [fm_run_end hT1] at hrun
        have hset : (fm_set B s0 T0) = some (fm_its (D ++ fm_c0 T)) := by unfold fm_set; rw [← hrun]; rfl
        have hfinal := fm_its_app D (fm_c0 T)
        have hT256 : ∀ c ∈ T, c ≤ 256 := fun c hc => fm_le256 hL (hok2 c hc)
        refine lv_aload_n hx hb d_LI_run_42 rfl (lv_at hl 0 rfl) ?_
        refine lv_aload_n hx hb d_LI_run_43 rfl (lv_at hl 0 rfl) ?_
        refine va_get (D := (dC, dI)) (ci := 2) (v := .int (nI (T.length))) (C := R_LI) (T := F_LI) (N := 5) hx hb ht i_LI hown hK hP 0 rfl rfl 3 (by decide) (ht _ q_1_48) (fun _ h9 => h9) rfl d_LI_run_44 ?_
        refine fm_xv S (c_LI_pass l dC dI q pa va na T.length ((fm_its D).length) cI cZ pd2 vl2 kn2 T (fm_its D) T.length (hPD2) (rfl) (hCL2) (rfl) (Nat.le_refl _) (by omega) (hT256)) rfl rfl k_LI_pass q_3_68 ⟨Nat.le_of_ble_eq_true rfl, Nat.le_of_ble_eq_true rfl⟩ hP hD hS (hK.sub [0, 1] rfl) [0, 1, 2, 3] (by decide) rfl 0 rfl rfl rfl hl.1 rfl (Nat.le_of_ble_eq_true rfl) ⟨Nat.zero_le _, Nat.zero_le _⟩ d_LI_run_47 (fun u => [(q, .inr (2, [.ref pa, .ref va, .ref na, .int (nI (T.length - T.length)), .int (nI (((fm_its D) ++ fm_its (fm_c0 (T.take T.length))).length))])), (pa, .inl (cI, 1066, .inl (pd2))), (va, .inl (cI, 1066, .inl (u.1))), (na, .inl (cZ, 1066, .inl (u.2))), (o, .inr (1, [.ref wa, .ref sa, .ref la, .int (nI (fm_HF B 2)), .int (nI (fm_HF B 3)), .int (nI (s0)), .int (nI (fm_z s0)), .int (nI (fm_h s0))])), (wa, .inl (cI, 2048, .inl (w))), (sa, .inl (cI, 10, .inl (st))), (la, .inl (cI, 10, .inl (ln)))]) [4, 5, 6, 7] (fun _ => rfl) (fun _ => rfl) (fun _ => show ∀ i, i < 8 → i ∈ ([0, 1, 2, 3] : List Nat) ∨ i ∈ ([4, 5, 6, 7] : List Nat) by decide) (by decide) (fun _ => rfl) (fun u hu H locs hP hD hS => ?_)
        obtain ⟨vl4, kn4⟩ := u
        have hu_47 : fm_CL vl4 kn4 ((fm_its D) ++ fm_its (fm_c0 (T.take T.length))) := hu
        have hP : va_P (dC, dI) classes [(q, .inr (2, [.ref pa, .ref va, .ref na, .int (nI (T.length - T.length)), .int (nI (((fm_its D) ++ fm_its (fm_c0 (T.take T.length))).length))])), (pa, .inl (cI, 1066, .inl (pd2))), (va, .inl (cI, 1066, .inl (vl4))), (na, .inl (cZ, 1066, .inl (kn4))), (o, .inr (1, [.ref wa, .ref sa, .ref la, .int (nI (fm_HF B 2)), .int (nI (fm_HF B 3)), .int (nI (s0)), .int (nI (fm_z s0)), .int (nI (fm_h s0))])), (wa, .inl (cI, 2048, .inl (w))), (sa, .inl (cI, 10, .inl (st))), (la, .inl (cI, 10, .inl (ln)))] _ := hP
        have hD : va_D A [(q, .inr (2, [.ref pa, .ref va, .ref na, .int (nI (T.length - T.length)), .int (nI (((fm_its D) ++ fm_its (fm_c0 (T.take T.length))).length))])), (pa, .inl (cI, 1066, .inl (pd2))), (va, .inl (cI, 1066, .inl (vl4))), (na, .inl (cZ, 1066, .inl (kn4))), (o, .inr (1, [.ref wa, .ref sa, .ref la, .int (nI (fm_HF B 2)), .int (nI (fm_HF B 3)), .int (nI (s0)), .int (nI (fm_z s0)), .int (nI (fm_h s0))])), (wa, .inl (cI, 2048, .inl (w))), (sa, .inl (cI, 10, .inl (st))), (la, .inl (cI, 10, .inl (ln)))] := hD
        refine lv_iconst (v := nI (1)) hx hb d_LI_run_50 (by decide) ?_
        exact W.zret (ty := .boolean) hx hb hr (rfl) (fun t ht hW => ⟨(pd2, vl4, kn4), (fun L hL9 => by rw [hset] at hL9; cases hL9; rw [hfinal]; rw [List.take_length] at hu_47; exact hu_47), congrArg (fun z => Outcome.returned (some (Value.int z))) (by rw [hset]; rfl), by rw [ht]; exact show va_P (dC, dI) classes [(q, .inr (2, [.ref pa, .ref va, .ref na, .int (nI (0)), .int (nI (fm_sN (fm_set B s0 T0)))])), (pa, .inl (cI, 1066, .inl (pd2))), (va, .inl (cI, 1066, .inl (vl4))), (na, .inl (cZ, 1066, .inl (kn4))), (o, .inr (1, [.ref wa, .ref sa, .ref la, .int (nI (fm_HF B 2)), .int (nI (fm_HF B 3)), .int (nI (s0)), .int (nI (fm_z s0)), .int (nI (fm_h s0))])), (wa, .inl (cI, 2048, .inl (w))), (sa, .inl (cI, 10, .inl (st))), (la, .inl (cI, 10, .inl (ln)))] _ from (by rw [hset]; show va_P (dC, dI) classes [(q, .inr (2, [.ref pa, .ref va, .ref na, .int (nI (0)), .int (nI ((fm_its (D ++ fm_c0 T)).length))])), (pa, .inl (cI, 1066, .inl (pd2))), (va, .inl (cI, 1066, .inl (vl4))), (na, .inl (cZ, 1066, .inl (kn4))), (o, .inr (1, [.ref wa, .ref sa, .ref la, .int (nI (fm_HF B 2)), .int (nI (fm_HF B 3)), .int (nI (s0)), .int (nI (fm_z s0)), .int (nI (fm_h s0))])), (wa, .inl (cI, 2048, .inl (w))), (sa, .inl (cI, 10, .inl (st))), (la, .inl (cI, 10, .inl (ln)))] _; rw [hfinal]; rw [Nat.sub_self, List.take_length] at hP; exact hP), hS.F ht⟩) hS.2.2 d_LI_run_51
      · have c_33 : ¬ (T.length ≤ 1) := fun z => c0 ((nI_leI (a := T.length) (b := 1) (by omega) (by omega)).mpr z)
        exact absurd c_14 c_33
    · have c_14 : ¬ (T.length ≤ 1) := fun z => c0 ((nI_leI (a := T.length) (b := 1) (by omega) (by omega)).mpr z)
      obtain ⟨x, r, R, rfl⟩ := fm_two (T := T) (by omega)
      obtain ⟨hst1, hst2, hst3⟩ := fm_stp_ok hV (s := s0) (D := D) hok2
      refine lv_aload_n hx hb d_LI_run_17 rfl (lv_at hl 0 rfl) ?_
      refine lv_aload_n hx hb d_LI_run_18 rfl (lv_at hl 1 rfl) ?_
      refine fm_xv S (c_LI_step l dC dI q pa va na (((x :: r :: R)).length) ((fm_its D).length) cI cZ pd2 vl2 kn2 D x r R o wa sa la s0 B w st ln (hF) (hV) (hs) (hPD2) (rfl) (hCL2) (rfl) (by simp only [List.length_cons] at *; omega) (hok2)) rfl rfl k_LI_step q_3_59 ⟨Nat.le_of_ble_eq_true rfl, Nat.le_of_ble_eq_true rfl⟩ hP hD hS (hK.sub [0, 1] rfl) [0, 1, 2, 3, 4, 5, 6, 7] (by decide) rfl 0 rfl rfl rfl hl.1 rfl (Nat.le_of_ble_eq_true rfl) ⟨Nat.zero_le _, Nat.zero_le _⟩ d_LI_run_19 (fun u => [(q, .inr (2, [.ref pa, .ref va, .ref na, .int (nI ((fm_stp B s0 D (x :: r :: R)).2.length)), .int (nI ((fm_its (fm_stp B s0 D (x :: r :: R)).1).length))])), (pa, .inl (cI, 1066, .inl (u.1))), (va, .inl (cI, 1066, .inl (u.2.1))), (na, .inl (cZ, 1066, .inl (u.2.2))), (o, .inr (1, [.ref wa, .ref sa, .ref la, .int (nI (fm_HF B 2)), .int (nI (fm_HF B 3)), .int (nI (s0)), .int (nI (fm_z s0)), .int (nI (fm_h s0))])), (wa, .inl (cI, 2048, .inl (w))), (sa, .inl (cI, 10, .inl (st))), (la, .inl (cI, 10, .inl (ln)))]) [] (fun _ => rfl) (fun _ => rfl) (fun _ => show ∀ i, i < 8 → i ∈ ([0, 1, 2, 3, 4, 5, 6, 7] : List Nat) ∨ i ∈ ([] : List Nat) by decide) (by decide) (fun _ => rfl) (fun u hu H locs hP hD hS => ?_)
      obtain ⟨pd3, vl3, kn3⟩ := u
      have hu_19 : fm_PD pd3 (fm_stp B s0 D (x :: r :: R)).2 ∧ fm_CL vl3 kn3 (fm_its (fm_stp B s0 D (x :: r :: R)).1) := hu
      have hP : va_P (dC, dI) classes [(q, .inr (2, [.ref pa, .ref va, .ref na, .int (nI ((fm_stp B s0 D (x :: r :: R)).2.length)), .int (nI ((fm_its (fm_stp B s0 D (x :: r :: R)).1).length))])), (pa, .inl (cI, 1066, .inl (pd3))), (va, .inl (cI, 1066, .inl (vl3))), (na, .inl (cZ, 1066, .inl (kn3))), (o, .inr (1, [.ref wa, .ref sa, .ref la, .int (nI (fm_HF B 2)), .int (nI (fm_HF B 3)), .int (nI (s0)), .int (nI (fm_z s0)), .int (nI (fm_h s0))])), (wa, .inl (cI, 2048, .inl (w))), (sa, .inl (cI, 10, .inl (st))), (la, .inl (cI, 10, .inl (ln)))] _ := hP
      have hD : va_D A [(q, .inr (2, [.ref pa, .ref va, .ref na, .int (nI ((fm_stp B s0 D (x :: r :: R)).2.length)), .int (nI ((fm_its (fm_stp B s0 D (x :: r :: R)).1).length))])), (pa, .inl (cI, 1066, .inl (pd3))), (va, .inl (cI, 1066, .inl (vl3))), (na, .inl (cZ, 1066, .inl (kn3))), (o, .inr (1, [.ref wa, .ref sa, .ref la, .int (nI (fm_HF B 2)), .int (nI (fm_HF B 3)), .int (nI (s0)), .int (nI (fm_z s0)), .int (nI (fm_h s0))])), (wa, .inl (cI, 2048, .inl (w))), (sa, .inl (cI, 10, .inl (st))), (la, .inl (cI, 10, .inl (ln)))] := hD
      refine lv_iinc (v := nI (a + 1)) (lv' := [(2, .int (nI (a + 1))), (0, .ref q), (1, .ref o)]) hx hb d_LI_run_22 hl (k := 2) rfl (nI_1 _) (by decide) rfl (fun ls hl => ?_)
      refine lv_goto (tgt := 2) hx hb d_LI_run_25 (by decide) ?_
      exact ih_2 (a + 1) ((fm_stp B s0 D (x :: r :: R)).1) ((fm_stp B s0 D (x :: r :: R)).2) pd3 vl3 kn3 H locs ls (⟨by omega, hu_19.1, hu_19.2, hst1, by simp only [List.length_cons] at *; omega, by rw [← fm_run_s (by simp) (by omega)]; exact hrun⟩) (by omega) hP hD hS (lv_sub hl [1, 2, 0] rfl)
