theorem d_MO_feed_0 : decode b_MO_feed 0 = .ok (.aload_n 0, 1) := by decide +kernel
theorem d_MO_feed_1 : decode b_MO_feed 1 = .ok (.iconst 0, 1) := by decide +kernel
theorem d_MO_feed_2 : decode b_MO_feed 2 = .ok (.putfield 26, 3) := by decide +kernel
theorem d_MO_feed_5 : decode b_MO_feed 5 = .ok (.iload_n 3, 1) := by decide +kernel
theorem d_MO_feed_6 : decode b_MO_feed 6 = .ok (.iconst 1, 1) := by decide +kernel
theorem d_MO_feed_7 : decode b_MO_feed 7 = .ok (.if_icmp .lt 21, 3) := by decide +kernel
theorem d_MO_feed_10 : decode b_MO_feed 10 = .ok (.iload_n 3, 1) := by decide +kernel
theorem d_MO_feed_11 : decode b_MO_feed 11 = .ok (.bipush 8, 2) := by decide +kernel
theorem d_MO_feed_13 : decode b_MO_feed 13 = .ok (.if_icmp .gt 15, 3) := by decide +kernel
theorem d_MO_feed_16 : decode b_MO_feed 16 = .ok (.aload_n 0, 1) := by decide +kernel
theorem d_MO_feed_17 : decode b_MO_feed 17 = .ok (.getfield 30, 3) := by decide +kernel
theorem d_MO_feed_20 : decode b_MO_feed 20 = .ok (.iload_n 3, 1) := by decide +kernel
theorem d_MO_feed_21 : decode b_MO_feed 21 = .ok (.iadd, 1) := by decide +kernel
theorem d_MO_feed_22 : decode b_MO_feed 22 = .ok (.sipush 8192, 3) := by decide +kernel
theorem d_MO_feed_25 : decode b_MO_feed 25 = .ok (.if_icmp .le 5, 3) := by decide +kernel
theorem d_MO_feed_28 : decode b_MO_feed 28 = .ok (.iconst 0, 1) := by decide +kernel
theorem d_MO_feed_29 : decode b_MO_feed 29 = .ok (.ireturn, 1) := by decide +kernel
theorem d_MO_feed_30 : decode b_MO_feed 30 = .ok (.iload_n 3, 1) := by decide +kernel
theorem d_MO_feed_31 : decode b_MO_feed 31 = .ok (.iconst 1, 1) := by decide +kernel
theorem d_MO_feed_32 : decode b_MO_feed 32 = .ok (.isub, 1) := by decide +kernel
theorem d_MO_feed_33 : decode b_MO_feed 33 = .ok (.istore 4, 2) := by decide +kernel
theorem d_MO_feed_35 : decode b_MO_feed 35 = .ok (.iload 4, 2) := by decide +kernel
theorem d_MO_feed_37 : decode b_MO_feed 37 = .ok (.ifCond .lt 37, 3) := by decide +kernel
theorem d_MO_feed_40 : decode b_MO_feed 40 = .ok (.aload_n 0, 1) := by decide +kernel
theorem d_MO_feed_41 : decode b_MO_feed 41 = .ok (.getfield 7, 3) := by decide +kernel
theorem d_MO_feed_44 : decode b_MO_feed 44 = .ok (.aload_n 0, 1) := by decide +kernel
theorem d_MO_feed_45 : decode b_MO_feed 45 = .ok (.getfield 30, 3) := by decide +kernel
theorem d_MO_feed_48 : decode b_MO_feed 48 = .ok (.lload_n 1, 1) := by decide +kernel
theorem d_MO_feed_49 : decode b_MO_feed 49 = .ok (.bipush 8, 2) := by decide +kernel
theorem d_MO_feed_51 : decode b_MO_feed 51 = .ok (.iload 4, 2) := by decide +kernel
theorem d_MO_feed_53 : decode b_MO_feed 53 = .ok (.imul, 1) := by decide +kernel
theorem d_MO_feed_54 : decode b_MO_feed 54 = .ok (.lshr, 1) := by decide +kernel
theorem d_MO_feed_55 : decode b_MO_feed 55 = .ok (.l2i, 1) := by decide +kernel
theorem d_MO_feed_56 : decode b_MO_feed 56 = .ok (.i2b, 1) := by decide +kernel
theorem d_MO_feed_57 : decode b_MO_feed 57 = .ok (.bastore, 1) := by decide +kernel
theorem d_MO_feed_58 : decode b_MO_feed 58 = .ok (.aload_n 0, 1) := by decide +kernel
theorem d_MO_feed_59 : decode b_MO_feed 59 = .ok (.dup, 1) := by decide +kernel
theorem d_MO_feed_60 : decode b_MO_feed 60 = .ok (.getfield 30, 3) := by decide +kernel
theorem d_MO_feed_63 : decode b_MO_feed 63 = .ok (.iconst 1, 1) := by decide +kernel
theorem d_MO_feed_64 : decode b_MO_feed 64 = .ok (.iadd, 1) := by decide +kernel
theorem d_MO_feed_65 : decode b_MO_feed 65 = .ok (.putfield 30, 3) := by decide +kernel
theorem d_MO_feed_68 : decode b_MO_feed 68 = .ok (.iinc 4 (-1), 3) := by decide +kernel
theorem d_MO_feed_71 : decode b_MO_feed 71 = .ok (.goto (-36), 3) := by decide +kernel
theorem d_MO_feed_74 : decode b_MO_feed 74 = .ok (.iconst 1, 1) := by decide +kernel
theorem d_MO_feed_75 : decode b_MO_feed 75 = .ok (.ireturn, 1) := by decide +kernel
set_option maxHeartbeats 4000000 in
set_option maxRecDepth 100000 in
theorem c_MO_feedY (l : Launch) (dC : Nat → ClassId) (dI : Nat → Nat → Nat) (h : Nat) (th : Int32) (fa : Nat) (ga : Nat) (ld : Int32) (sz : Int32) (ra : Nat) (rz : Int32) (ka : Nat) (wa : Nat) (ct : Int32) (n : Nat) (cB : ClassId) (f : Nat → Int32) (X : Int64) (k : Nat) (hn : n + k ≤ 8192) (hk0 : 0 < k) (hk8 : k ≤ 8) : fm_MW l (dC, dI) y_MO_feed w_MO_feed ({ frames := 0, cells := 0, slots := 0, locals := 0 }) [.ref h, .long (X), .int (nI (k))] [(h, .inr (4, [.int (th), .ref fa, .int (nI (n)), .ref ga, .int (ld), .int (sz), .ref ra, .int (rz), .ref ka, .ref wa, .int (ct)])), (fa, .inl (cB, 8192, .inl (f)))] [(h, .inr (4, [.int (nI (0)), .ref fa, .int (nI (n + k)), .ref ga, .int (ld), .int (sz), .ref ra, .int (rz), .ref ka, .ref wa, .int (ct)])), (fa, .inl (cB, 8192, .inl (fm_apr f n X k)))] [(cB, .byte)] (some (.int (nI (1)))) := by
  refine Met.ofW (cc := b_MO_feed) (maxL := 5) (ret := (some .boolean)) (by decide) rfl ?_
  intro pg ev s m args below meth cd s₁ BD hml hv
  obtain ⟨rfl, hP, hK, hD0⟩ := hv
  have hx := BD.exec
  have hb := BD.bytes
  have hr := BD.returns
  have hts := atoms_spec (ws := w_MO_feed) BD.pre
  have ht : ∀ w ∈ fm_T, w.before _ s = true := fun w h => hts w (List.mem_cons_of_mem _ h)
  have hown : s.vm.findClass R_MO = some m.cls := findClass_of_methodNamed BD.named
  have hlocks := BD.notSynchronized
  have S : CallFix pg m cd b_MO_feed 5 s _ w_MO_feed R_MO := ⟨hx, hb, hml, hown, hts⟩
  have hD := fm_selfD hD0
  generalize fm_A [(h, .inr (4, [.int (th), .ref fa, .int (nI (n)), .ref ga, .int (ld), .int (sz), .ref ra, .int (rz), .ref ka, .ref wa, .int (ct)])), (fa, .inl (cB, 8192, .inl (f)))] = A at hD ⊢
  have hS : va_S A s.heap s.heap [] := va_S.rf
  have hl := lv_entry ([.ref h, .long (X), .int (nI (k))]) (n := 5) (Nat.le_of_ble_eq_true rfl)
  rw [lg_entry_eq]
  generalize (lg_sl ([.ref h, .long (X), .int (nI (k))]) ++ List.replicate (5 - (lg_sl ([.ref h, .long (X), .int (nI (k))])).length) Slot.unset).toArray = ls at hl ⊢
  have hl : lv_has ls 5 [(0, .ref h), (1, .long (X)), (3, .int (nI (k)))] := hl
  refine lv_aload_n hx hb d_MO_feed_0 rfl (lv_at hl 0 rfl) ?_
  refine lv_iconst (v := nI (0)) hx hb d_MO_feed_1 (by decide) ?_
  refine va_put (D := (dC, dI)) (ci := 4) (v := .int (nI (0))) (ty := .int) (C := R_MO) (T := F_MO) (N := 11) hx hb ht i_MO t_MO t_MO_ok n_MO hown hK hP hD hS 0 rfl rfl 0 (by decide) (ht _ q_3_113) (fun _ h9 => h9) rfl (by decide +kernel) (rfl) (rfl) (Nat.le_of_ble_eq_true rfl) d_MO_feed_2 (fun H locs hP hD hS => ?_)
  have hP : va_P (dC, dI) classes [(h, .inr (4, [.int (nI (0)), .ref fa, .int (nI (n)), .ref ga, .int (ld), .int (sz), .ref ra, .int (rz), .ref ka, .ref wa, .int (ct)])), (fa, .inl (cB, 8192, .inl (f)))] _ := hP
  have hD : va_D A [(h, .inr (4, [.int (nI (0)), .ref fa, .int (nI (n)), .ref ga, .int (ld), .int (sz), .ref ra, .int (rz), .ref ka, .ref wa, .int (ct)])), (fa, .inl (cB, 8192, .inl (f)))] := hD
  refine lv_iload_n hx hb d_MO_feed_5 rfl (lv_at hl 2 rfl) ?_
  refine lv_iconst (v := nI (1)) hx hb d_MO_feed_6 (by decide) ?_
  refine lv_icmp_lt (tgt := 28) hx hb d_MO_feed_7 (by decide) (fun c0 => ?_) (fun c0 => ?_)
  · have c_7 : k < 1 := (nI_ltI (a := k) (b := 1) (by omega) (by omega)).mp c0
    exact absurd c_7 (by omega)
  · have c_7 : ¬ (k < 1) := fun z => c0 ((nI_ltI (a := k) (b := 1) (by omega) (by omega)).mpr z)
    refine lv_iload_n hx hb d_MO_feed_10 rfl (lv_at hl 2 rfl) ?_
    refine lv_bipush (v := nI (8)) hx hb d_MO_feed_11 (by decide) ?_
    refine lv_icmp_gt (tgt := 28) hx hb d_MO_feed_13 (by decide) (fun c0 => ?_) (fun c0 => ?_)
    · have c_13 : 8 < k := (nI_ltI (a := 8) (b := k) (by omega) (by omega)).mp c0
      exact absurd c_13 (by omega)
    · have c_13 : ¬ (8 < k) := fun z => c0 ((nI_ltI (a := 8) (b := k) (by omega) (by omega)).mpr z)
      refine lv_aload_n hx hb d_MO_feed_16 rfl (lv_at hl 0 rfl) ?_
      refine va_get (D := (dC, dI)) (ci := 4) (v := .int (nI (n))) (C := R_MO) (T := F_MO) (N := 11) hx hb ht i_MO hown hK hP 0 rfl rfl 2 (by decide) (ht _ q_3_115) (fun _ h9 => h9) rfl d_MO_feed_17 ?_
      refine lv_iload_n hx hb d_MO_feed_20 rfl (lv_at hl 2 rfl) ?_
      refine lv_iadd hx hb d_MO_feed_21 ?_
      refine fm_tw (z := nI (n + k)) (nI_add _ _) ?_
      refine lv_sipush (v := nI (8192)) hx hb d_MO_feed_22 (by decide) ?_
      refine lv_icmp_le (tgt := 30) hx hb d_MO_feed_25 (by decide) (fun c0 => ?_) (fun c0 => ?_)
      · have c_25 : n + k ≤ 8192 := (nI_leI (a := n + k) (b := 8192) (by omega) (by omega)).mp c0
        refine lv_iload_n hx hb d_MO_feed_30 rfl (lv_at hl 2 rfl) ?_
        refine lv_iconst (v := nI (1)) hx hb d_MO_feed_31 (by decide) ?_
        refine lv_isub hx hb d_MO_feed_32 ?_
        refine fm_tw (z := (nI k - nI 1)) (rfl) ?_
        refine lv_istore (lv' := [(4, .int (nI k - nI 1)), (0, .ref h), (1, .long (X)), (3, .int (nI (k)))]) hx hb d_MO_feed_33 hl (by decide) rfl (fun ls hl => ?_)
        refine fm_wloop3 (nL := 5) (LV := fun (j : Nat) (n2 : Nat) (f2 : Nat → Int32) => [(0, .ref h), (1, .long (X)), (4, .int (nI j - nI 1))]) (WS := fun (j : Nat) (n2 : Nat) (f2 : Nat → Int32) => [(h, .inr (4, [.int (nI (0)), .ref fa, .int (nI (n2)), .ref ga, .int (ld), .int (sz), .ref ra, .int (rz), .ref ka, .ref wa, .int (ct)])), (fa, .inl (cB, 8192, .inl (f2)))]) (I := fun (j : Nat) (n2 : Nat) (f2 : Nat → Int32) => j ≤ 8 ∧ n2 + j = n + k ∧ fm_apr f2 n2 X j = fm_apr f n X k) (μ := fun (j : Nat) (n2 : Nat) (f2 : Nat → Int32) => j) ?_ k n f (⟨hk8, rfl, rfl⟩) hP hD hS ls (lv_sub hl [1, 2, 0] rfl)
        intro j n2 f2 hI_35 ih_35 H locs ls hP hD hS hl
        have hl : lv_has ls 5 [(0, .ref h), (1, .long (X)), (4, .int (nI j - nI 1))] := hl
        have hP : va_P (dC, dI) classes [(h, .inr (4, [.int (nI (0)), .ref fa, .int (nI (n2)), .ref ga, .int (ld), .int (sz), .ref ra, .int (rz), .ref ka, .ref wa, .int (ct)])), (fa, .inl (cB, 8192, .inl (f2)))] _ := hP
        have hD : va_D A [(h, .inr (4, [.int (nI (0)), .ref fa, .int (nI (n2)), .ref ga, .int (ld), .int (sz), .ref ra, .int (rz), .ref ka, .ref wa, .int (ct)])), (fa, .inl (cB, 8192, .inl (f2)))] := hD
        obtain ⟨hj8, hnj, happ⟩ := hI_35
        refine lv_iload hx hb d_MO_feed_35 (lv_at hl 2 rfl) ?_
        refine lv_if_lt (tgt := 74) hx hb d_MO_feed_37 (by decide) (fun c0 => ?_) (fun c0 => ?_)
        · have c_37 := c0
          have hj0 : j = 0 := by
            rcases j with _ | j2
            · rfl
            · exact absurd (show nI j2 < 0 by rw [← nI_pred j2]; exact c_37) (nI_pos (by omega))
          subst hj0
          refine lv_iconst (v := nI (1)) hx hb d_MO_feed_74 (by decide) ?_
          exact W.zret (ty := .boolean) hx hb hr (rfl) (fun t ht hW => ⟨congrArg (fun z => Outcome.returned (some (Value.int z))) (rfl), by rw [ht]; exact by rw [← happ, ← hnj]; exact hP, hS.F ht⟩) hS.2.2 d_MO_feed_75
        · have c_37 := c0
          obtain ⟨j2, rfl⟩ : ∃ q, j = q + 1 := by
            rcases j with _ | j2
            · exact absurd (by decide) c_37
            · exact ⟨j2, rfl⟩
          have hl : lv_has ls 5 [(0, .ref h), (1, .long (X)), (4, .int (nI (j2)))] := by rw [show ((nI (j2 + 1) - nI 1) : Int32) = nI (j2) from nI_pred j2] at hl; exact hl
          refine lv_aload_n hx hb d_MO_feed_40 rfl (lv_at hl 0 rfl) ?_
          refine va_get (D := (dC, dI)) (ci := 4) (v := .ref fa) (C := R_MO) (T := F_MO) (N := 11) hx hb ht i_MO hown hK hP 0 rfl rfl 1 (by decide) (ht _ q_3_114) (fun _ h9 => h9) rfl d_MO_feed_41 ?_
          refine lv_aload_n hx hb d_MO_feed_44 rfl (lv_at hl 0 rfl) ?_
          refine va_get (D := (dC, dI)) (ci := 4) (v := .int (nI (n2))) (C := R_MO) (T := F_MO) (N := 11) hx hb ht i_MO hown hK hP 0 rfl rfl 2 (by decide) (ht _ q_3_115) (fun _ h9 => h9) rfl d_MO_feed_45 ?_
          refine lv_lload_n hx hb d_MO_feed_48 rfl (lv_at hl 1 rfl) ?_
          refine lv_bipush (v := nI (8)) hx hb d_MO_feed_49 (by decide) ?_
          refine lv_iload hx hb d_MO_feed_51 (lv_at hl 2 rfl) ?_
          refine lv_imul hx hb d_MO_feed_53 ?_
          refine fm_tw (z := nI (8 * j2)) (pk_mul _ _) ?_
          refine lv_lshr hx hb d_MO_feed_54 rfl ?_
          refine lv_l2i hx hb d_MO_feed_55 rfl ?_
          refine lv_i2b hx hb d_MO_feed_56 rfl ?_
          refine va_bast hx hb hK hP hD hS 1 0 rfl rfl (vp_in_nI (by omega) (by omega)) d_MO_feed_57 (fun H locs hP hD hS => ?_)
          have hP : va_P (dC, dI) classes [(h, .inr (4, [.int (nI (0)), .ref fa, .int (nI (n2)), .ref ga, .int (ld), .int (sz), .ref ra, .int (rz), .ref ka, .ref wa, .int (ct)])), (fa, .inl (cB, 8192, .inl (upd f2 (nI (n2)).toNatClampNeg (vp_nar .byte ((((((X) >>> ((nI (8 * j2)).toInt64 &&& 63)).toInt32)).toInt8.toInt32))))))] _ := hP
          have hD : va_D A [(h, .inr (4, [.int (nI (0)), .ref fa, .int (nI (n2)), .ref ga, .int (ld), .int (sz), .ref ra, .int (rz), .ref ka, .ref wa, .int (ct)])), (fa, .inl (cB, 8192, .inl (upd f2 (nI (n2)).toNatClampNeg (vp_nar .byte ((((((X) >>> ((nI (8 * j2)).toInt64 &&& 63)).toInt32)).toInt8.toInt32))))))] := hD
          rw [nI_clamp (show n2 < 2 ^ 31 by omega), pk_vb] at hP hD
          have hP : va_P (dC, dI) classes [(h, .inr (4, [.int (nI (0)), .ref fa, .int (nI (n2)), .ref ga, .int (ld), .int (sz), .ref ra, .int (rz), .ref ka, .ref wa, .int (ct)])), (fa, .inl (cB, 8192, .inl (upd f2 (n2) ((((((X) >>> ((nI (8 * j2)).toInt64 &&& 63)).toInt32)).toInt8.toInt32)))))] _ := hP
          have hD : va_D A [(h, .inr (4, [.int (nI (0)), .ref fa, .int (nI (n2)), .ref ga, .int (ld), .int (sz), .ref ra, .int (rz), .ref ka, .ref wa, .int (ct)])), (fa, .inl (cB, 8192, .inl (upd f2 (n2) ((((((X) >>> ((nI (8 * j2)).toInt64 &&& 63)).toInt32)).toInt8.toInt32)))))] := hD
          refine lv_aload_n hx hb d_MO_feed_58 rfl (lv_at hl 0 rfl) ?_
          refine lv_dup hx hb d_MO_feed_59 rfl ?_
          refine va_get (D := (dC, dI)) (ci := 4) (v := .int (nI (n2))) (C := R_MO) (T := F_MO) (N := 11) hx hb ht i_MO hown hK hP 0 rfl rfl 2 (by decide) (ht _ q_3_115) (fun _ h9 => h9) rfl d_MO_feed_60 ?_
          refine lv_iconst (v := nI (1)) hx hb d_MO_feed_63 (by decide) ?_
          refine lv_iadd hx hb d_MO_feed_64 ?_
          refine fm_tw (z := nI (n2 + 1)) (nI_add _ _) ?_
          refine va_put (D := (dC, dI)) (ci := 4) (v := .int (nI (n2 + 1))) (ty := .int) (C := R_MO) (T := F_MO) (N := 11) hx hb ht i_MO t_MO t_MO_ok n_MO hown hK hP hD hS 0 rfl rfl 2 (by decide) (ht _ q_3_115) (fun _ h9 => h9) rfl (by decide +kernel) (rfl) (rfl) (Nat.le_of_ble_eq_true rfl) d_MO_feed_65 (fun H locs hP hD hS => ?_)
          have hP : va_P (dC, dI) classes [(h, .inr (4, [.int (nI (0)), .ref fa, .int (nI (n2 + 1)), .ref ga, .int (ld), .int (sz), .ref ra, .int (rz), .ref ka, .ref wa, .int (ct)])), (fa, .inl (cB, 8192, .inl (upd f2 (n2) ((((((X) >>> ((nI (8 * j2)).toInt64 &&& 63)).toInt32)).toInt8.toInt32)))))] _ := hP
          have hD : va_D A [(h, .inr (4, [.int (nI (0)), .ref fa, .int (nI (n2 + 1)), .ref ga, .int (ld), .int (sz), .ref ra, .int (rz), .ref ka, .ref wa, .int (ct)])), (fa, .inl (cB, 8192, .inl (upd f2 (n2) ((((((X) >>> ((nI (8 * j2)).toInt64 &&& 63)).toInt32)).toInt8.toInt32)))))] := hD
          refine lv_iinc (v := (nI (j2) - nI 1)) (lv' := [(4, .int (nI (j2) - nI 1)), (0, .ref h), (1, .long (X))]) hx hb d_MO_feed_68 hl (k := 2) rfl (fm_m1 _) (by decide) rfl (fun ls hl => ?_)
          refine lv_goto (tgt := 35) hx hb d_MO_feed_71 (by decide) ?_
          exact ih_35 j2 (n2 + 1) (upd f2 (n2) ((((((X) >>> ((nI (8 * j2)).toInt64 &&& 63)).toInt32)).toInt8.toInt32))) H locs ls (⟨by omega, by omega, happ⟩) (by omega) hP hD hS (lv_sub hl [1, 2, 0] rfl)
      · have c_25 : ¬ (n + k ≤ 8192) := fun z => c0 ((nI_leI (a := n + k) (b := 8192) (by omega) (by omega)).mpr z)
        exact absurd hn c_25
set_option maxHeartbeats 4000000 in
set_option maxRecDepth 100000 in
theorem c_MO_feedN (l : Launch) (dC : Nat → ClassId) (dI : Nat → Nat → Nat) (h : Nat) (th : Int32) (fa : Nat) (ga : Nat) (ld : Int32) (sz : Int32) (ra : Nat) (rz : Int32) (ka : Nat) (wa : Nat) (ct : Int32) (n : Nat) (cB : ClassId) (f : Nat → Int32) (X : Int64) (x : Int32) (hn : n ≤ 8192) (hno : ∀ k : Nat, x = nI k → 0 < k → k ≤ 8 → ¬ n + k ≤ 8192) : fm_MW l (dC, dI) y_MO_feed w_MO_feed ({ frames := 0, cells := 0, slots := 0, locals := 0 }) [.ref h, .long (X), .int (x)] [(h, .inr (4, [.int (th), .ref fa, .int (nI (n)), .ref ga, .int (ld), .int (sz), .ref ra, .int (rz), .ref ka, .ref wa, .int (ct)])), (fa, .inl (cB, 8192, .inl (f)))] [(h, .inr (4, [.int (nI (0)), .ref fa, .int (nI (n)), .ref ga, .int (ld), .int (sz), .ref ra, .int (rz), .ref ka, .ref wa, .int (ct)])), (fa, .inl (cB, 8192, .inl (f)))] [(cB, .byte)] (some (.int (nI (0)))) := by
  refine Met.ofW (cc := b_MO_feed) (maxL := 5) (ret := (some .boolean)) (by decide) rfl ?_
  intro pg ev s m args below meth cd s₁ BD hml hv
  obtain ⟨rfl, hP, hK, hD0⟩ := hv
  have hx := BD.exec
  have hb := BD.bytes
  have hr := BD.returns
  have hts := atoms_spec (ws := w_MO_feed) BD.pre
  have ht : ∀ w ∈ fm_T, w.before _ s = true := fun w h => hts w (List.mem_cons_of_mem _ h)
  have hown : s.vm.findClass R_MO = some m.cls := findClass_of_methodNamed BD.named
  have hlocks := BD.notSynchronized
  have S : CallFix pg m cd b_MO_feed 5 s _ w_MO_feed R_MO := ⟨hx, hb, hml, hown, hts⟩
  have hD := fm_selfD hD0
  generalize fm_A [(h, .inr (4, [.int (th), .ref fa, .int (nI (n)), .ref ga, .int (ld), .int (sz), .ref ra, .int (rz), .ref ka, .ref wa, .int (ct)])), (fa, .inl (cB, 8192, .inl (f)))] = A at hD ⊢
  have hS : va_S A s.heap s.heap [] := va_S.rf
  have hl := lv_entry ([.ref h, .long (X), .int (x)]) (n := 5) (Nat.le_of_ble_eq_true rfl)
  rw [lg_entry_eq]
  generalize (lg_sl ([.ref h, .long (X), .int (x)]) ++ List.replicate (5 - (lg_sl ([.ref h, .long (X), .int (x)])).length) Slot.unset).toArray = ls at hl ⊢
  have hl : lv_has ls 5 [(0, .ref h), (1, .long (X)), (3, .int (x))] := hl
  refine lv_aload_n hx hb d_MO_feed_0 rfl (lv_at hl 0 rfl) ?_
  refine lv_iconst (v := nI (0)) hx hb d_MO_feed_1 (by decide) ?_
  refine va_put (D := (dC, dI)) (ci := 4) (v := .int (nI (0))) (ty := .int) (C := R_MO) (T := F_MO) (N := 11) hx hb ht i_MO t_MO t_MO_ok n_MO hown hK hP hD hS 0 rfl rfl 0 (by decide) (ht _ q_3_113) (fun _ h9 => h9) rfl (by decide +kernel) (rfl) (rfl) (Nat.le_of_ble_eq_true rfl) d_MO_feed_2 (fun H locs hP hD hS => ?_)
  have hP : va_P (dC, dI) classes [(h, .inr (4, [.int (nI (0)), .ref fa, .int (nI (n)), .ref ga, .int (ld), .int (sz), .ref ra, .int (rz), .ref ka, .ref wa, .int (ct)])), (fa, .inl (cB, 8192, .inl (f)))] _ := hP
  have hD : va_D A [(h, .inr (4, [.int (nI (0)), .ref fa, .int (nI (n)), .ref ga, .int (ld), .int (sz), .ref ra, .int (rz), .ref ka, .ref wa, .int (ct)])), (fa, .inl (cB, 8192, .inl (f)))] := hD
  refine lv_iload_n hx hb d_MO_feed_5 rfl (lv_at hl 2 rfl) ?_
  refine lv_iconst (v := nI (1)) hx hb d_MO_feed_6 (by decide) ?_
  refine lv_icmp_lt (tgt := 28) hx hb d_MO_feed_7 (by decide) (fun c0 => ?_) (fun c0 => ?_)
  · have c_7 := c0
    refine lv_iconst (v := nI (0)) hx hb d_MO_feed_28 (by decide) ?_
    exact W.zret (ty := .boolean) hx hb hr (rfl) (fun t ht hW => ⟨congrArg (fun z => Outcome.returned (some (Value.int z))) (rfl), by rw [ht]; exact hP, hS.F ht⟩) hS.2.2 d_MO_feed_29
  · have c_7 := c0
    refine lv_iload_n hx hb d_MO_feed_10 rfl (lv_at hl 2 rfl) ?_
    refine lv_bipush (v := nI (8)) hx hb d_MO_feed_11 (by decide) ?_
    refine lv_icmp_gt (tgt := 28) hx hb d_MO_feed_13 (by decide) (fun c0 => ?_) (fun c0 => ?_)
    · have c_13 := c0
      refine lv_iconst (v := nI (0)) hx hb d_MO_feed_28 (by decide) ?_
      exact W.zret (ty := .boolean) hx hb hr (rfl) (fun t ht hW => ⟨congrArg (fun z => Outcome.returned (some (Value.int z))) (rfl), by rw [ht]; exact hP, hS.F ht⟩) hS.2.2 d_MO_feed_29
    · have c_13 := c0
      obtain ⟨k, hk31, hk1, rfl⟩ := fm_ge (show 1 < 2 ^ 31 by decide) c_7
      have hk8 : k ≤ 8 := Nat.le_of_not_lt (fun z => c_13 ((nI_ltI (by decide) hk31).mpr z))
      refine lv_aload_n hx hb d_MO_feed_16 rfl (lv_at hl 0 rfl) ?_
      refine va_get (D := (dC, dI)) (ci := 4) (v := .int (nI (n))) (C := R_MO) (T := F_MO) (N := 11) hx hb ht i_MO hown hK hP 0 rfl rfl 2 (by decide) (ht _ q_3_115) (fun _ h9 => h9) rfl d_MO_feed_17 ?_
      refine lv_iload_n hx hb d_MO_feed_20 rfl (lv_at hl 2 rfl) ?_
      refine lv_iadd hx hb d_MO_feed_21 ?_
      refine fm_tw (z := nI (n + k)) (nI_add _ _) ?_
      refine lv_sipush (v := nI (8192)) hx hb d_MO_feed_22 (by decide) ?_
      refine lv_icmp_le (tgt := 30) hx hb d_MO_feed_25 (by decide) (fun c0 => ?_) (fun c0 => ?_)
      · have c_25 : n + k ≤ 8192 := (nI_leI (a := n + k) (b := 8192) (by omega) (by omega)).mp c0
        exact absurd c_25 (hno k rfl hk1 hk8)
      · have c_25 : ¬ (n + k ≤ 8192) := fun z => c0 ((nI_leI (a := n + k) (b := 8192) (by omega) (by omega)).mpr z)
        refine lv_iconst (v := nI (0)) hx hb d_MO_feed_28 (by decide) ?_
        exact W.zret (ty := .boolean) hx hb hr (rfl) (fun t ht hW => ⟨congrArg (fun z => Outcome.returned (some (Value.int z))) (rfl), by rw [ht]; exact hP, hS.F ht⟩) hS.2.2 d_MO_feed_29
theorem d_MO_keep_0 : decode b_MO_keep 0 = .ok (.aload_n 0, 1) := by decide +kernel
theorem d_MO_keep_1 : decode b_MO_keep 1 = .ok (.iconst 0, 1) := by decide +kernel
theorem d_MO_keep_2 : decode b_MO_keep 2 = .ok (.putfield 26, 3) := by decide +kernel
theorem d_MO_keep_5 : decode b_MO_keep 5 = .ok (.iload_n 1, 1) := by decide +kernel
theorem d_MO_keep_6 : decode b_MO_keep 6 = .ok (.ifCond .lt 11, 3) := by decide +kernel
theorem d_MO_keep_9 : decode b_MO_keep 9 = .ok (.iload_n 1, 1) := by decide +kernel
theorem d_MO_keep_10 : decode b_MO_keep 10 = .ok (.aload_n 0, 1) := by decide +kernel
theorem d_MO_keep_11 : decode b_MO_keep 11 = .ok (.getfield 30, 3) := by decide +kernel
theorem d_MO_keep_14 : decode b_MO_keep 14 = .ok (.if_icmp .le 5, 3) := by decide +kernel
theorem d_MO_keep_17 : decode b_MO_keep 17 = .ok (.iconst 0, 1) := by decide +kernel
theorem d_MO_keep_18 : decode b_MO_keep 18 = .ok (.ireturn, 1) := by decide +kernel
theorem d_MO_keep_19 : decode b_MO_keep 19 = .ok (.aload_n 0, 1) := by decide +kernel
theorem d_MO_keep_20 : decode b_MO_keep 20 = .ok (.iload_n 1, 1) := by decide +kernel
theorem d_MO_keep_21 : decode b_MO_keep 21 = .ok (.putfield 30, 3) := by decide +kernel
theorem d_MO_keep_24 : decode b_MO_keep 24 = .ok (.iconst 1, 1) := by decide +kernel
theorem d_MO_keep_25 : decode b_MO_keep 25 = .ok (.ireturn, 1) := by decide +kernel
set_option maxHeartbeats 4000000 in
set_option maxRecDepth 100000 in
theorem c_MO_keepY (l : Launch) (dC : Nat → ClassId) (dI : Nat → Nat → Nat) (h : Nat) (th : Int32) (fa : Nat) (ga : Nat) (ld : Int32) (sz : Int32) (ra : Nat) (rz : Int32) (ka : Nat) (wa : Nat) (ct : Int32) (n : Nat) (k : Nat) (hn : n ≤ 8192) (hk : k ≤ n) : fm_MW l (dC, dI) y_MO_keep w_MO_keep ({ frames := 0, cells := 0, slots := 0, locals := 0 }) [.ref h, .int (nI (k))] [(h, .inr (4, [.int (th), .ref fa, .int (nI (n)), .ref ga, .int (ld), .int (sz), .ref ra, .int (rz), .ref ka, .ref wa, .int (ct)]))] [(h, .inr (4, [.int (nI (0)), .ref fa, .int (nI (k)), .ref ga, .int (ld), .int (sz), .ref ra, .int (rz), .ref ka, .ref wa, .int (ct)]))] [] (some (.int (nI (1)))) := by
  refine Met.ofW (cc := b_MO_keep) (maxL := 2) (ret := (some .boolean)) (by decide) rfl ?_
  intro pg ev s m args below meth cd s₁ BD hml hv
  obtain ⟨rfl, hP, hK, hD0⟩ := hv
  have hx := BD.exec
  have hb := BD.bytes
  have hr := BD.returns
  have hts := atoms_spec (ws := w_MO_keep) BD.pre
  have ht : ∀ w ∈ fm_T, w.before _ s = true := fun w h => hts w (List.mem_cons_of_mem _ h)
  have hown : s.vm.findClass R_MO = some m.cls := findClass_of_methodNamed BD.named
  have hlocks := BD.notSynchronized
  have S : CallFix pg m cd b_MO_keep 2 s _ w_MO_keep R_MO := ⟨hx, hb, hml, hown, hts⟩
  have hD := fm_selfD hD0
  generalize fm_A [(h, .inr (4, [.int (th), .ref fa, .int (nI (n)), .ref ga, .int (ld), .int (sz), .ref ra, .int (rz), .ref ka, .ref wa, .int (ct)]))] = A at hD ⊢
  have hS : va_S A s.heap s.heap [] := va_S.rf
  have hl := lv_entry ([.ref h, .int (nI (k))]) (n := 2) (Nat.le_of_ble_eq_true rfl)
  rw [lg_entry_eq]
  generalize (lg_sl ([.ref h, .int (nI (k))]) ++ List.replicate (2 - (lg_sl ([.ref h, .int (nI (k))])).length) Slot.unset).toArray = ls at hl ⊢
  have hl : lv_has ls 2 [(0, .ref h), (1, .int (nI (k)))] := hl
  refine lv_aload_n hx hb d_MO_keep_0 rfl (lv_at hl 0 rfl) ?_
  refine lv_iconst (v := nI (0)) hx hb d_MO_keep_1 (by decide) ?_
  refine va_put (D := (dC, dI)) (ci := 4) (v := .int (nI (0))) (ty := .int) (C := R_MO) (T := F_MO) (N := 11) hx hb ht i_MO t_MO t_MO_ok n_MO hown hK hP hD hS 0 rfl rfl 0 (by decide) (ht _ q_3_113) (fun _ h9 => h9) rfl (by decide +kernel) (rfl) (rfl) (Nat.le_of_ble_eq_true rfl) d_MO_keep_2 (fun H locs hP hD hS => ?_)
  have hP : va_P (dC, dI) classes [(h, .inr (4, [.int (nI (0)), .ref fa, .int (nI (n)), .ref ga, .int (ld), .int (sz), .ref ra, .int (rz), .ref ka, .ref wa, .int (ct)]))] _ := hP
  have hD : va_D A [(h, .inr (4, [.int (nI (0)), .ref fa, .int (nI (n)), .ref ga, .int (ld), .int (sz), .ref ra, .int (rz), .ref ka, .ref wa, .int (ct)]))] := hD
  refine lv_iload_n hx hb d_MO_keep_5 rfl (lv_at hl 1 rfl) ?_
  refine lv_if_lt (tgt := 17) hx hb d_MO_keep_6 (by decide) (fun c0 => ?_) (fun c0 => ?_)
  · have c_6 : k < 0 := (nI_ltI (a := k) (b := 0) (by omega) (by omega)).mp c0
    exact absurd c_6 (by omega)
  · have c_6 : ¬ (k < 0) := fun z => c0 ((nI_ltI (a := k) (b := 0) (by omega) (by omega)).mpr z)
    refine lv_iload_n hx hb d_MO_keep_9 rfl (lv_at hl 1 rfl) ?_
    refine lv_aload_n hx hb d_MO_keep_10 rfl (lv_at hl 0 rfl) ?_
    refine va_get (D := (dC, dI)) (ci := 4) (v := .int (nI (n))) (C := R_MO) (T := F_MO) (N := 11) hx hb ht i_MO hown hK hP 0 rfl rfl 2 (by decide) (ht _ q_3_115) (fun _ h9 => h9) rfl d_MO_keep_11 ?_
    refine lv_icmp_le (tgt := 19) hx hb d_MO_keep_14 (by decide) (fun c0 => ?_) (fun c0 => ?_)
    · have c_14 : k ≤ n := (nI_leI (a := k) (b := n) (by omega) (by omega)).mp c0
      refine lv_aload_n hx hb d_MO_keep_19 rfl (lv_at hl 0 rfl) ?_
      refine lv_iload_n hx hb d_MO_keep_20 rfl (lv_at hl 1 rfl) ?_
      refine va_put (D := (dC, dI)) (ci := 4) (v := .int (nI (k))) (ty := .int) (C := R_MO) (T := F_MO) (N := 11) hx hb ht i_MO t_MO t_MO_ok n_MO hown hK hP hD hS 0 rfl rfl 2 (by decide) (ht _ q_3_115) (fun _ h9 => h9) rfl (by decide +kernel) (rfl) (rfl) (Nat.le_of_ble_eq_true rfl) d_MO_keep_21 (fun H locs hP hD hS => ?_)
      have hP : va_P (dC, dI) classes [(h, .inr (4, [.int (nI (0)), .ref fa, .int (nI (k)), .ref ga, .int (ld), .int (sz), .ref ra, .int (rz), .ref ka, .ref wa, .int (ct)]))] _ := hP
      have hD : va_D A [(h, .inr (4, [.int (nI (0)), .ref fa, .int (nI (k)), .ref ga, .int (ld), .int (sz), .ref ra, .int (rz), .ref ka, .ref wa, .int (ct)]))] := hD
      refine lv_iconst (v := nI (1)) hx hb d_MO_keep_24 (by decide) ?_
      exact W.zret (ty := .boolean) hx hb hr (rfl) (fun t ht hW => ⟨congrArg (fun z => Outcome.returned (some (Value.int z))) (rfl), by rw [ht]; exact hP, hS.F ht⟩) hS.2.2 d_MO_keep_25
    · have c_14 : ¬ (k ≤ n) := fun z => c0 ((nI_leI (a := k) (b := n) (by omega) (by omega)).mpr z)
      exact absurd hk c_14
set_option maxHeartbeats 4000000 in
set_option maxRecDepth 100000 in
theorem c_MO_keepN (l : Launch) (dC : Nat → ClassId) (dI : Nat → Nat → Nat) (h : Nat) (th : Int32) (fa : Nat) (ga : Nat) (ld : Int32) (sz : Int32) (ra : Nat) (rz : Int32) (ka : Nat) (wa : Nat) (ct : Int32) (n : Nat) (x : Int32) (hn : n ≤ 8192) (hno : x < 0 ∨ nI n < x) : fm_MW l (dC, dI) y_MO_keep w_MO_keep ({ frames := 0, cells := 0, slots := 0, locals := 0 }) [.ref h, .int (x)] [(h, .inr (4, [.int (th), .ref fa, .int (nI (n)), .ref ga, .int (ld), .int (sz), .ref ra, .int (rz), .ref ka, .ref wa, .int (ct)]))] [(h, .inr (4, [.int (nI (0)), .ref fa, .int (nI (n)), .ref ga, .int (ld), .int (sz), .ref ra, .int (rz), .ref ka, .ref wa, .int (ct)]))] [] (some (.int (nI (0)))) := by
  refine Met.ofW (cc := b_MO_keep) (maxL := 2) (ret := (some .boolean)) (by decide) rfl ?_
  intro pg ev s m args below meth cd s₁ BD hml hv
  obtain ⟨rfl, hP, hK, hD0⟩ := hv
  have hx := BD.exec
  have hb := BD.bytes
  have hr := BD.returns
  have hts := atoms_spec (ws := w_MO_keep) BD.pre
  have ht : ∀ w ∈ fm_T, w.before _ s = true := fun w h => hts w (List.mem_cons_of_mem _ h)
  have hown : s.vm.findClass R_MO = some m.cls := findClass_of_methodNamed BD.named
  have hlocks := BD.notSynchronized
  have S : CallFix pg m cd b_MO_keep 2 s _ w_MO_keep R_MO := ⟨hx, hb, hml, hown, hts⟩
  have hD := fm_selfD hD0
  generalize fm_A [(h, .inr (4, [.int (th), .ref fa, .int (nI (n)), .ref ga, .int (ld), .int (sz), .ref ra, .int (rz), .ref ka, .ref wa, .int (ct)]))] = A at hD ⊢
  have hS : va_S A s.heap s.heap [] := va_S.rf
  have hl := lv_entry ([.ref h, .int (x)]) (n := 2) (Nat.le_of_ble_eq_true rfl)
  rw [lg_entry_eq]
  generalize (lg_sl ([.ref h, .int (x)]) ++ List.replicate (2 - (lg_sl ([.ref h, .int (x)])).length) Slot.unset).toArray = ls at hl ⊢
  have hl : lv_has ls 2 [(0, .ref h), (1, .int (x))] := hl
  refine lv_aload_n hx hb d_MO_keep_0 rfl (lv_at hl 0 rfl) ?_
  refine lv_iconst (v := nI (0)) hx hb d_MO_keep_1 (by decide) ?_
  refine va_put (D := (dC, dI)) (ci := 4) (v := .int (nI (0))) (ty := .int) (C := R_MO) (T := F_MO) (N := 11) hx hb ht i_MO t_MO t_MO_ok n_MO hown hK hP hD hS 0 rfl rfl 0 (by decide) (ht _ q_3_113) (fun _ h9 => h9) rfl (by decide +kernel) (rfl) (rfl) (Nat.le_of_ble_eq_true rfl) d_MO_keep_2 (fun H locs hP hD hS => ?_)
  have hP : va_P (dC, dI) classes [(h, .inr (4, [.int (nI (0)), .ref fa, .int (nI (n)), .ref ga, .int (ld), .int (sz), .ref ra, .int (rz), .ref ka, .ref wa, .int (ct)]))] _ := hP
  have hD : va_D A [(h, .inr (4, [.int (nI (0)), .ref fa, .int (nI (n)), .ref ga, .int (ld), .int (sz), .ref ra, .int (rz), .ref ka, .ref wa, .int (ct)]))] := hD
  refine lv_iload_n hx hb d_MO_keep_5 rfl (lv_at hl 1 rfl) ?_
  refine lv_if_lt (tgt := 17) hx hb d_MO_keep_6 (by decide) (fun c0 => ?_) (fun c0 => ?_)
  · have c_6 := c0
    refine lv_iconst (v := nI (0)) hx hb d_MO_keep_17 (by decide) ?_
    exact W.zret (ty := .boolean) hx hb hr (rfl) (fun t ht hW => ⟨congrArg (fun z => Outcome.returned (some (Value.int z))) (rfl), by rw [ht]; exact hP, hS.F ht⟩) hS.2.2 d_MO_keep_18
  · have c_6 := c0
    refine lv_iload_n hx hb d_MO_keep_9 rfl (lv_at hl 1 rfl) ?_
    refine lv_aload_n hx hb d_MO_keep_10 rfl (lv_at hl 0 rfl) ?_
    refine va_get (D := (dC, dI)) (ci := 4) (v := .int (nI (n))) (C := R_MO) (T := F_MO) (N := 11) hx hb ht i_MO hown hK hP 0 rfl rfl 2 (by decide) (ht _ q_3_115) (fun _ h9 => h9) rfl d_MO_keep_11 ?_
    refine lv_icmp_le (tgt := 19) hx hb d_MO_keep_14 (by decide) (fun c0 => ?_) (fun c0 => ?_)
    · have c_14 := c0
      exact absurd c_14 (Int32.not_le.mpr (hno.resolve_left c_6))
    · have c_14 := c0
      refine lv_iconst (v := nI (0)) hx hb d_MO_keep_17 (by decide) ?_
      exact W.zret (ty := .boolean) hx hb hr (rfl) (fun t ht hW => ⟨congrArg (fun z => Outcome.returned (some (Value.int z))) (rfl), by rw [ht]; exact hP, hS.F ht⟩) hS.2.2 d_MO_keep_18
theorem d_MO_add_0 : decode b_MO_add 0 = .ok (.aload_n 0, 1) := by decide +kernel
theorem d_MO_add_1 : decode b_MO_add 1 = .ok (.iconst 0, 1) := by decide +kernel
theorem d_MO_add_2 : decode b_MO_add 2 = .ok (.putfield 26, 3) := by decide +kernel
theorem d_MO_add_5 : decode b_MO_add 5 = .ok (.iload_n 1, 1) := by decide +kernel
theorem d_MO_add_6 : decode b_MO_add 6 = .ok (.ifCond .lt 19, 3) := by decide +kernel
theorem d_MO_add_9 : decode b_MO_add 9 = .ok (.iload_n 1, 1) := by decide +kernel
theorem d_MO_add_10 : decode b_MO_add 10 = .ok (.sipush 255, 3) := by decide +kernel
theorem d_MO_add_13 : decode b_MO_add 13 = .ok (.if_icmp .gt 12, 3) := by decide +kernel
theorem d_MO_add_16 : decode b_MO_add 16 = .ok (.aload_n 0, 1) := by decide +kernel
theorem d_MO_add_17 : decode b_MO_add 17 = .ok (.getfield 138, 3) := by decide +kernel
theorem d_MO_add_20 : decode b_MO_add 20 = .ok (.bipush 64, 2) := by decide +kernel
theorem d_MO_add_22 : decode b_MO_add 22 = .ok (.if_icmp .ne 5, 3) := by decide +kernel
theorem d_MO_add_25 : decode b_MO_add 25 = .ok (.iconst 0, 1) := by decide +kernel
theorem d_MO_add_26 : decode b_MO_add 26 = .ok (.ireturn, 1) := by decide +kernel
theorem d_MO_add_27 : decode b_MO_add 27 = .ok (.aload_n 0, 1) := by decide +kernel
theorem d_MO_add_28 : decode b_MO_add 28 = .ok (.getfield 16, 3) := by decide +kernel
theorem d_MO_add_31 : decode b_MO_add 31 = .ok (.aload_n 0, 1) := by decide +kernel
theorem d_MO_add_32 : decode b_MO_add 32 = .ok (.getfield 138, 3) := by decide +kernel
theorem d_MO_add_35 : decode b_MO_add 35 = .ok (.iload_n 1, 1) := by decide +kernel
theorem d_MO_add_36 : decode b_MO_add 36 = .ok (.i2b, 1) := by decide +kernel
theorem d_MO_add_37 : decode b_MO_add 37 = .ok (.bastore, 1) := by decide +kernel
theorem d_MO_add_38 : decode b_MO_add 38 = .ok (.aload_n 0, 1) := by decide +kernel
theorem d_MO_add_39 : decode b_MO_add 39 = .ok (.dup, 1) := by decide +kernel
theorem d_MO_add_40 : decode b_MO_add 40 = .ok (.getfield 138, 3) := by decide +kernel
theorem d_MO_add_43 : decode b_MO_add 43 = .ok (.iconst 1, 1) := by decide +kernel
theorem d_MO_add_44 : decode b_MO_add 44 = .ok (.iadd, 1) := by decide +kernel
theorem d_MO_add_45 : decode b_MO_add 45 = .ok (.putfield 138, 3) := by decide +kernel
theorem d_MO_add_48 : decode b_MO_add 48 = .ok (.iconst 1, 1) := by decide +kernel
theorem d_MO_add_49 : decode b_MO_add 49 = .ok (.ireturn, 1) := by decide +kernel
set_option maxHeartbeats 4000000 in
set_option maxRecDepth 100000 in
theorem c_MO_addY (l : Launch) (dC : Nat → ClassId) (dI : Nat → Nat → Nat) (h : Nat) (th : Int32) (fa : Nat) (n0 : Int32) (ga : Nat) (ld : Int32) (sz : Int32) (ra : Nat) (ka : Nat) (wa : Nat) (ct : Int32) (rn : Nat) (cB : ClassId) (rw : Nat → Int32) (c : Nat) (hc : c ≤ 255) (hrn : rn < 64) : fm_MW l (dC, dI) y_MO_add w_MO_add ({ frames := 0, cells := 0, slots := 0, locals := 0 }) [.ref h, .int (nI (c))] [(h, .inr (4, [.int (th), .ref fa, .int (n0), .ref ga, .int (ld), .int (sz), .ref ra, .int (nI (rn)), .ref ka, .ref wa, .int (ct)])), (ra, .inl (cB, 64, .inl (rw)))] [(h, .inr (4, [.int (nI (0)), .ref fa, .int (n0), .ref ga, .int (ld), .int (sz), .ref ra, .int (nI (rn + 1)), .ref ka, .ref wa, .int (ct)])), (ra, .inl (cB, 64, .inl (upd rw rn ((nI c).toInt8.toInt32))))] [(cB, .byte)] (some (.int (nI (1)))) := by
  refine Met.ofW (cc := b_MO_add) (maxL := 2) (ret := (some .boolean)) (by decide) rfl ?_
  intro pg ev s m args below meth cd s₁ BD hml hv
  obtain ⟨rfl, hP, hK, hD0⟩ := hv
  have hx := BD.exec
  have hb := BD.bytes
  have hr := BD.returns
  have hts := atoms_spec (ws := w_MO_add) BD.pre
  have ht : ∀ w ∈ fm_T, w.before _ s = true := fun w h => hts w (List.mem_cons_of_mem _ h)
  have hown : s.vm.findClass R_MO = some m.cls := findClass_of_methodNamed BD.named
  have hlocks := BD.notSynchronized
  have S : CallFix pg m cd b_MO_add 2 s _ w_MO_add R_MO := ⟨hx, hb, hml, hown, hts⟩
  have hD := fm_selfD hD0
  generalize fm_A [(h, .inr (4, [.int (th), .ref fa, .int (n0), .ref ga, .int (ld), .int (sz), .ref ra, .int (nI (rn)), .ref ka, .ref wa, .int (ct)])), (ra, .inl (cB, 64, .inl (rw)))] = A at hD ⊢
  have hS : va_S A s.heap s.heap [] := va_S.rf
  have hl := lv_entry ([.ref h, .int (nI (c))]) (n := 2) (Nat.le_of_ble_eq_true rfl)
  rw [lg_entry_eq]
  generalize (lg_sl ([.ref h, .int (nI (c))]) ++ List.replicate (2 - (lg_sl ([.ref h, .int (nI (c))])).length) Slot.unset).toArray = ls at hl ⊢
  have hl : lv_has ls 2 [(0, .ref h), (1, .int (nI (c)))] := hl
  refine lv_aload_n hx hb d_MO_add_0 rfl (lv_at hl 0 rfl) ?_
  refine lv_iconst (v := nI (0)) hx hb d_MO_add_1 (by decide) ?_
  refine va_put (D := (dC, dI)) (ci := 4) (v := .int (nI (0))) (ty := .int) (C := R_MO) (T := F_MO) (N := 11) hx hb ht i_MO t_MO t_MO_ok n_MO hown hK hP hD hS 0 rfl rfl 0 (by decide) (ht _ q_3_113) (fun _ h9 => h9) rfl (by decide +kernel) (rfl) (rfl) (Nat.le_of_ble_eq_true rfl) d_MO_add_2 (fun H locs hP hD hS => ?_)
  have hP : va_P (dC, dI) classes [(h, .inr (4, [.int (nI (0)), .ref fa, .int (n0), .ref ga, .int (ld), .int (sz), .ref ra, .int (nI (rn)), .ref ka, .ref wa, .int (ct)])), (ra, .inl (cB, 64, .inl (rw)))] _ := hP
  have hD : va_D A [(h, .inr (4, [.int (nI (0)), .ref fa, .int (n0), .ref ga, .int (ld), .int (sz), .ref ra, .int (nI (rn)), .ref ka, .ref wa, .int (ct)])), (ra, .inl (cB, 64, .inl (rw)))] := hD
  refine lv_iload_n hx hb d_MO_add_5 rfl (lv_at hl 1 rfl) ?_
  refine lv_if_lt (tgt := 25) hx hb d_MO_add_6 (by decide) (fun c0 => ?_) (fun c0 => ?_)
  · have c_6 : c < 0 := (nI_ltI (a := c) (b := 0) (by omega) (by omega)).mp c0
    exact absurd c_6 (by omega)
  · have c_6 : ¬ (c < 0) := fun z => c0 ((nI_ltI (a := c) (b := 0) (by omega) (by omega)).mpr z)
    refine lv_iload_n hx hb d_MO_add_9 rfl (lv_at hl 1 rfl) ?_
    refine lv_sipush (v := nI (255)) hx hb d_MO_add_10 (by decide) ?_
    refine lv_icmp_gt (tgt := 25) hx hb d_MO_add_13 (by decide) (fun c0 => ?_) (fun c0 => ?_)
    · have c_13 : 255 < c := (nI_ltI (a := 255) (b := c) (by omega) (by omega)).mp c0
      exact absurd c_13 (by omega)
    · have c_13 : ¬ (255 < c) := fun z => c0 ((nI_ltI (a := 255) (b := c) (by omega) (by omega)).mpr z)
      refine lv_aload_n hx hb d_MO_add_16 rfl (lv_at hl 0 rfl) ?_
      refine va_get (D := (dC, dI)) (ci := 4) (v := .int (nI (rn))) (C := R_MO) (T := F_MO) (N := 11) hx hb ht i_MO hown hK hP 0 rfl rfl 7 (by decide) (ht _ q_3_120) (fun _ h9 => h9) rfl d_MO_add_17 ?_
      refine lv_bipush (v := nI (64)) hx hb d_MO_add_20 (by decide) ?_
      refine lv_icmp_ne (tgt := 27) hx hb d_MO_add_22 (by decide) (fun c0 => ?_) (fun c0 => ?_)
      · have c_22 : ¬ (rn = 64) := fun z => c0 ((nI_eq (a := rn) (b := 64) (by omega) (by omega)).mpr z)
        refine lv_aload_n hx hb d_MO_add_27 rfl (lv_at hl 0 rfl) ?_
        refine va_get (D := (dC, dI)) (ci := 4) (v := .ref ra) (C := R_MO) (T := F_MO) (N := 11) hx hb ht i_MO hown hK hP 0 rfl rfl 6 (by decide) (ht _ q_3_119) (fun _ h9 => h9) rfl d_MO_add_28 ?_
        refine lv_aload_n hx hb d_MO_add_31 rfl (lv_at hl 0 rfl) ?_
        refine va_get (D := (dC, dI)) (ci := 4) (v := .int (nI (rn))) (C := R_MO) (T := F_MO) (N := 11) hx hb ht i_MO hown hK hP 0 rfl rfl 7 (by decide) (ht _ q_3_120) (fun _ h9 => h9) rfl d_MO_add_32 ?_
        refine lv_iload_n hx hb d_MO_add_35 rfl (lv_at hl 1 rfl) ?_
        refine lv_i2b hx hb d_MO_add_36 rfl ?_
        refine va_bast hx hb hK hP hD hS 1 0 rfl rfl (vp_in_nI (by omega) (by omega)) d_MO_add_37 (fun H locs hP hD hS => ?_)
        have hP : va_P (dC, dI) classes [(h, .inr (4, [.int (nI (0)), .ref fa, .int (n0), .ref ga, .int (ld), .int (sz), .ref ra, .int (nI (rn)), .ref ka, .ref wa, .int (ct)])), (ra, .inl (cB, 64, .inl (upd rw (nI (rn)).toNatClampNeg (vp_nar .byte (((nI (c)).toInt8.toInt32))))))] _ := hP
        have hD : va_D A [(h, .inr (4, [.int (nI (0)), .ref fa, .int (n0), .ref ga, .int (ld), .int (sz), .ref ra, .int (nI (rn)), .ref ka, .ref wa, .int (ct)])), (ra, .inl (cB, 64, .inl (upd rw (nI (rn)).toNatClampNeg (vp_nar .byte (((nI (c)).toInt8.toInt32))))))] := hD
        rw [nI_clamp (show rn < 2 ^ 31 by omega), pk_vb] at hP hD
        have hP : va_P (dC, dI) classes [(h, .inr (4, [.int (nI (0)), .ref fa, .int (n0), .ref ga, .int (ld), .int (sz), .ref ra, .int (nI (rn)), .ref ka, .ref wa, .int (ct)])), (ra, .inl (cB, 64, .inl (upd rw (rn) (((nI (c)).toInt8.toInt32)))))] _ := hP
        have hD : va_D A [(h, .inr (4, [.int (nI (0)), .ref fa, .int (n0), .ref ga, .int (ld), .int (sz), .ref ra, .int (nI (rn)), .ref ka, .ref wa, .int (ct)])), (ra, .inl (cB, 64, .inl (upd rw (rn) (((nI (c)).toInt8.toInt32)))))] := hD
        refine lv_aload_n hx hb d_MO_add_38 rfl (lv_at hl 0 rfl) ?_
        refine lv_dup hx hb d_MO_add_39 rfl ?_
        refine va_get (D := (dC, dI)) (ci := 4) (v := .int (nI (rn))) (C := R_MO) (T := F_MO) (N := 11) hx hb ht i_MO hown hK hP 0 rfl rfl 7 (by decide) (ht _ q_3_120) (fun _ h9 => h9) rfl d_MO_add_40 ?_
        refine lv_iconst (v := nI (1)) hx hb d_MO_add_43 (by decide) ?_
        refine lv_iadd hx hb d_MO_add_44 ?_
        refine fm_tw (z := nI (rn + 1)) (nI_add _ _) ?_
        refine va_put (D := (dC, dI)) (ci := 4) (v := .int (nI (rn + 1))) (ty := .int) (C := R_MO) (T := F_MO) (N := 11) hx hb ht i_MO t_MO t_MO_ok n_MO hown hK hP hD hS 0 rfl rfl 7 (by decide) (ht _ q_3_120) (fun _ h9 => h9) rfl (by decide +kernel) (rfl) (rfl) (Nat.le_of_ble_eq_true rfl) d_MO_add_45 (fun H locs hP hD hS => ?_)
        have hP : va_P (dC, dI) classes [(h, .inr (4, [.int (nI (0)), .ref fa, .int (n0), .ref ga, .int (ld), .int (sz), .ref ra, .int (nI (rn + 1)), .ref ka, .ref wa, .int (ct)])), (ra, .inl (cB, 64, .inl (upd rw (rn) (((nI (c)).toInt8.toInt32)))))] _ := hP
        have hD : va_D A [(h, .inr (4, [.int (nI (0)), .ref fa, .int (n0), .ref ga, .int (ld), .int (sz), .ref ra, .int (nI (rn + 1)), .ref ka, .ref wa, .int (ct)])), (ra, .inl (cB, 64, .inl (upd rw (rn) (((nI (c)).toInt8.toInt32)))))] := hD
        refine lv_iconst (v := nI (1)) hx hb d_MO_add_48 (by decide) ?_
        exact W.zret (ty := .boolean) hx hb hr (rfl) (fun t ht hW => ⟨congrArg (fun z => Outcome.returned (some (Value.int z))) (rfl), by rw [ht]; exact hP, hS.F ht⟩) hS.2.2 d_MO_add_49
      · have c_22 : rn = 64 := (nI_eq (a := rn) (b := 64) (by omega) (by omega)).mp c0
        exact absurd c_22 (by omega)
set_option maxHeartbeats 4000000 in
set_option maxRecDepth 100000 in
theorem c_MO_addN (l : Launch) (dC : Nat → ClassId) (dI : Nat → Nat → Nat) (h : Nat) (th : Int32) (fa : Nat) (n0 : Int32) (ga : Nat) (ld : Int32) (sz : Int32) (ra : Nat) (ka : Nat) (wa : Nat) (ct : Int32) (rn : Nat) (x : Int32) (hrn : rn ≤ 64) (hno : x < 0 ∨ nI 255 < x ∨ rn = 64) : fm_MW l (dC, dI) y_MO_add w_MO_add ({ frames := 0, cells := 0, slots := 0, locals := 0 }) [.ref h, .int (x)] [(h, .inr (4, [.int (th), .ref fa, .int (n0), .ref ga, .int (ld), .int (sz), .ref ra, .int (nI (rn)), .ref ka, .ref wa, .int (ct)]))] [(h, .inr (4, [.int (nI (0)), .ref fa, .int (n0), .ref ga, .int (ld), .int (sz), .ref ra, .int (nI (rn)), .ref ka, .ref wa, .int (ct)]))] [] (some (.int (nI (0)))) := by
  refine Met.ofW (cc := b_MO_add) (maxL := 2) (ret := (some .boolean)) (by decide) rfl ?_
  intro pg ev s m args below meth cd s₁ BD hml hv
  obtain ⟨rfl, hP, hK, hD0⟩ := hv
  have hx := BD.exec
  have hb := BD.bytes
  have hr := BD.returns
  have hts := atoms_spec (ws := w_MO_add) BD.pre
  have ht : ∀ w ∈ fm_T, w.before _ s = true := fun w h => hts w (List.mem_cons_of_mem _ h)
  have hown : s.vm.findClass R_MO = some m.cls := findClass_of_methodNamed BD.named
  have hlocks := BD.notSynchronized
  have S : CallFix pg m cd b_MO_add 2 s _ w_MO_add R_MO := ⟨hx, hb, hml, hown, hts⟩
  have hD := fm_selfD hD0
  generalize fm_A [(h, .inr (4, [.int (th), .ref fa, .int (n0), .ref ga, .int (ld), .int (sz), .ref ra, .int (nI (rn)), .ref ka, .ref wa, .int (ct)]))] = A at hD ⊢
  have hS : va_S A s.heap s.heap [] := va_S.rf
  have hl := lv_entry ([.ref h, .int (x)]) (n := 2) (Nat.le_of_ble_eq_true rfl)
  rw [lg_entry_eq]
  generalize (lg_sl ([.ref h, .int (x)]) ++ List.replicate (2 - (lg_sl ([.ref h, .int (x)])).length) Slot.unset).toArray = ls at hl ⊢
  have hl : lv_has ls 2 [(0, .ref h), (1, .int (x))] := hl
  refine lv_aload_n hx hb d_MO_add_0 rfl (lv_at hl 0 rfl) ?_
  refine lv_iconst (v := nI (0)) hx hb d_MO_add_1 (by decide) ?_
  refine va_put (D := (dC, dI)) (ci := 4) (v := .int (nI (0))) (ty := .int) (C := R_MO) (T := F_MO) (N := 11) hx hb ht i_MO t_MO t_MO_ok n_MO hown hK hP hD hS 0 rfl rfl 0 (by decide) (ht _ q_3_113) (fun _ h9 => h9) rfl (by decide +kernel) (rfl) (rfl) (Nat.le_of_ble_eq_true rfl) d_MO_add_2 (fun H locs hP hD hS => ?_)
  have hP : va_P (dC, dI) classes [(h, .inr (4, [.int (nI (0)), .ref fa, .int (n0), .ref ga, .int (ld), .int (sz), .ref ra, .int (nI (rn)), .ref ka, .ref wa, .int (ct)]))] _ := hP
  have hD : va_D A [(h, .inr (4, [.int (nI (0)), .ref fa, .int (n0), .ref ga, .int (ld), .int (sz), .ref ra, .int (nI (rn)), .ref ka, .ref wa, .int (ct)]))] := hD
  refine lv_iload_n hx hb d_MO_add_5 rfl (lv_at hl 1 rfl) ?_
  refine lv_if_lt (tgt := 25) hx hb d_MO_add_6 (by decide) (fun c0 => ?_) (fun c0 => ?_)
  · have c_6 := c0
    refine lv_iconst (v := nI (0)) hx hb d_MO_add_25 (by decide) ?_
    exact W.zret (ty := .boolean) hx hb hr (rfl) (fun t ht hW => ⟨congrArg (fun z => Outcome.returned (some (Value.int z))) (rfl), by rw [ht]; exact hP, hS.F ht⟩) hS.2.2 d_MO_add_26
  · have c_6 := c0
    refine lv_iload_n hx hb d_MO_add_9 rfl (lv_at hl 1 rfl) ?_
    refine lv_sipush (v := nI (255)) hx hb d_MO_add_10 (by decide) ?_
    refine lv_icmp_gt (tgt := 25) hx hb d_MO_add_13 (by decide) (fun c0 => ?_) (fun c0 => ?_)
    · have c_13 := c0
      refine lv_iconst (v := nI (0)) hx hb d_MO_add_25 (by decide) ?_
      exact W.zret (ty := .boolean) hx hb hr (rfl) (fun t ht hW => ⟨congrArg (fun z => Outcome.returned (some (Value.int z))) (rfl), by rw [ht]; exact hP, hS.F ht⟩) hS.2.2 d_MO_add_26
    · have c_13 := c0
      refine lv_aload_n hx hb d_MO_add_16 rfl (lv_at hl 0 rfl) ?_
      refine va_get (D := (dC, dI)) (ci := 4) (v := .int (nI (rn))) (C := R_MO) (T := F_MO) (N := 11) hx hb ht i_MO hown hK hP 0 rfl rfl 7 (by decide) (ht _ q_3_120) (fun _ h9 => h9) rfl d_MO_add_17 ?_
      refine lv_bipush (v := nI (64)) hx hb d_MO_add_20 (by decide) ?_
      refine lv_icmp_ne (tgt := 27) hx hb d_MO_add_22 (by decide) (fun c0 => ?_) (fun c0 => ?_)
      · have c_22 : ¬ (rn = 64) := fun z => c0 ((nI_eq (a := rn) (b := 64) (by omega) (by omega)).mpr z)
        exact absurd ((hno.resolve_left c_6).resolve_left c_13) c_22
      · have c_22 : rn = 64 := (nI_eq (a := rn) (b := 64) (by omega) (by omega)).mp c0
        refine lv_iconst (v := nI (0)) hx hb d_MO_add_25 (by decide) ?_
        exact W.zret (ty := .boolean) hx hb hr (rfl) (fun t ht hW => ⟨congrArg (fun z => Outcome.returned (some (Value.int z))) (rfl), by rw [ht]; exact hP, hS.F ht⟩) hS.2.2 d_MO_add_26
theorem d_MO_has_0 : decode b_MO_has 0 = .ok (.aload_n 0, 1) := by decide +kernel
theorem d_MO_has_1 : decode b_MO_has 1 = .ok (.iconst 0, 1) := by decide +kernel
theorem d_MO_has_2 : decode b_MO_has 2 = .ok (.putfield 26, 3) := by decide +kernel
theorem d_MO_has_5 : decode b_MO_has 5 = .ok (.aload_n 0, 1) := by decide +kernel
theorem d_MO_has_6 : decode b_MO_has 6 = .ok (.getfield 103, 3) := by decide +kernel
theorem d_MO_has_9 : decode b_MO_has 9 = .ok (.ifCond .eq 18, 3) := by decide +kernel
theorem d_MO_has_12 : decode b_MO_has 12 = .ok (.aload_n 0, 1) := by decide +kernel
theorem d_MO_has_13 : decode b_MO_has 13 = .ok (.getfield 13, 3) := by decide +kernel
theorem d_MO_has_16 : decode b_MO_has 16 = .ok (.iload_n 1, 1) := by decide +kernel
theorem d_MO_has_17 : decode b_MO_has 17 = .ok (.invokestatic 53, 3) := by decide +kernel
theorem d_MO_has_20 : decode b_MO_has 20 = .ok (.ifCond .eq 7, 3) := by decide +kernel
theorem d_MO_has_23 : decode b_MO_has 23 = .ok (.iconst 1, 1) := by decide +kernel
theorem d_MO_has_24 : decode b_MO_has 24 = .ok (.goto 4, 3) := by decide +kernel
theorem d_MO_has_27 : decode b_MO_has 27 = .ok (.iconst 0, 1) := by decide +kernel
theorem d_MO_has_28 : decode b_MO_has 28 = .ok (.ireturn, 1) := by decide +kernel
set_option maxHeartbeats 4000000 in
set_option maxRecDepth 100000 in
theorem c_MO_has (l : Launch) (dC : Nat → ClassId) (dI : Nat → Nat → Nat) (h : Nat) (th : Int32) (fa : Nat) (n0 : Int32) (ga : Nat) (sz : Int32) (ra : Nat) (rz : Int32) (ka : Nat) (wa : Nat) (ct : Int32) (lb : Bool) (cB : ClassId) (g : Nat → Int32) (x : Int32) (hL : lb = true → fm_Len (fm_RB g)) : fm_MW l (dC, dI) y_MO_has w_MO_has ({ frames := 5, cells := 0, slots := 0, locals := 109 }) [.ref h, .int (x)] [(h, .inr (4, [.int (th), .ref fa, .int (n0), .ref ga, .int (fm_bI lb), .int (sz), .ref ra, .int (rz), .ref ka, .ref wa, .int (ct)])), (ga, .inl (cB, 8192, .inl (g)))] [(h, .inr (4, [.int (nI (0)), .ref fa, .int (n0), .ref ga, .int (fm_bI lb), .int (sz), .ref ra, .int (rz), .ref ka, .ref wa, .int (ct)])), (ga, .inl (cB, 8192, .inl (g)))] [(cB, .byte)] (some (.int (fm_bI (lb && fm_thI (fm_RB g) x)))) := by
  refine Met.ofW (cc := b_MO_has) (maxL := 2) (ret := (some .boolean)) (by decide) rfl ?_
  intro pg ev s m args below meth cd s₁ BD hml hv
  obtain ⟨rfl, hP, hK, hD0⟩ := hv
  have hx := BD.exec
  have hb := BD.bytes
  have hr := BD.returns
  have hts := atoms_spec (ws := w_MO_has) BD.pre
  have ht : ∀ w ∈ fm_T, w.before _ s = true := fun w h => hts w (List.mem_cons_of_mem _ h)
  have hown : s.vm.findClass R_MO = some m.cls := findClass_of_methodNamed BD.named
  have hlocks := BD.notSynchronized
  have S : CallFix pg m cd b_MO_has 2 s _ w_MO_has R_MO := ⟨hx, hb, hml, hown, hts⟩
  have hD := fm_selfD hD0
  generalize fm_A [(h, .inr (4, [.int (th), .ref fa, .int (n0), .ref ga, .int (fm_bI lb), .int (sz), .ref ra, .int (rz), .ref ka, .ref wa, .int (ct)])), (ga, .inl (cB, 8192, .inl (g)))] = A at hD ⊢
  have hS : va_S A s.heap s.heap [] := va_S.rf
  have hl := lv_entry ([.ref h, .int (x)]) (n := 2) (Nat.le_of_ble_eq_true rfl)
  rw [lg_entry_eq]
  generalize (lg_sl ([.ref h, .int (x)]) ++ List.replicate (2 - (lg_sl ([.ref h, .int (x)])).length) Slot.unset).toArray = ls at hl ⊢
  have hl : lv_has ls 2 [(0, .ref h), (1, .int (x))] := hl
  refine lv_aload_n hx hb d_MO_has_0 rfl (lv_at hl 0 rfl) ?_
  refine lv_iconst (v := nI (0)) hx hb d_MO_has_1 (by decide) ?_
  refine va_put (D := (dC, dI)) (ci := 4) (v := .int (nI (0))) (ty := .int) (C := R_MO) (T := F_MO) (N := 11) hx hb ht i_MO t_MO t_MO_ok n_MO hown hK hP hD hS 0 rfl rfl 0 (by decide) (ht _ q_3_113) (fun _ h9 => h9) rfl (by decide +kernel) (rfl) (rfl) (Nat.le_of_ble_eq_true rfl) d_MO_has_2 (fun H locs hP hD hS => ?_)
  have hP : va_P (dC, dI) classes [(h, .inr (4, [.int (nI (0)), .ref fa, .int (n0), .ref ga, .int (fm_bI lb), .int (sz), .ref ra, .int (rz), .ref ka, .ref wa, .int (ct)])), (ga, .inl (cB, 8192, .inl (g)))] _ := hP
  have hD : va_D A [(h, .inr (4, [.int (nI (0)), .ref fa, .int (n0), .ref ga, .int (fm_bI lb), .int (sz), .ref ra, .int (rz), .ref ka, .ref wa, .int (ct)])), (ga, .inl (cB, 8192, .inl (g)))] := hD
  refine lv_aload_n hx hb d_MO_has_5 rfl (lv_at hl 0 rfl) ?_
  refine va_get (D := (dC, dI)) (ci := 4) (v := .int (fm_bI lb)) (C := R_MO) (T := F_MO) (N := 11) hx hb ht i_MO hown hK hP 0 rfl rfl 4 (by decide) (ht _ q_3_117) (fun _ h9 => h9) rfl d_MO_has_6 ?_
  refine lv_if_eq (tgt := 27) hx hb d_MO_has_9 (by decide) (fun c0 => ?_) (fun c0 => ?_)
  · have c_9 : lb = false := fm_bI_f c0
    refine lv_iconst (v := nI (0)) hx hb d_MO_has_27 (by decide) ?_
    exact W.zret (ty := .boolean) hx hb hr (rfl) (fun t ht hW => ⟨congrArg (fun z => Outcome.returned (some (Value.int z))) (by first | exact fm_cF1 c_9 | exact fm_cT c_9 c_20 | exact fm_cF2 c_20), by rw [ht]; exact hP, hS.F ht⟩) hS.2.2 d_MO_has_28
  · have c_9 : lb = true := fm_bI_t c0
    refine lv_aload_n hx hb d_MO_has_12 rfl (lv_at hl 0 rfl) ?_
    refine va_get (D := (dC, dI)) (ci := 4) (v := .ref ga) (C := R_MO) (T := F_MO) (N := 11) hx hb ht i_MO hown hK hP 0 rfl rfl 3 (by decide) (ht _ q_3_116) (fun _ h9 => h9) rfl d_MO_has_13 ?_
    refine lv_iload_n hx hb d_MO_has_16 rfl (lv_at hl 1 rfl) ?_
    refine fm_cs S (c_MO_isThere l dC dI ga cB g x (hL c_9)) rfl rfl k_MO_isThere q_3_194 ⟨Nat.le_of_ble_eq_true rfl, Nat.le_of_ble_eq_true rfl⟩ (hP.sub [1] rfl) (hK.sub [0] rfl) rfl hl.1 rfl (Nat.le_of_ble_eq_true rfl) ⟨Nat.zero_le _, Nat.zero_le _⟩ d_MO_has_17 ?_
    refine lv_if_eq (tgt := 27) hx hb d_MO_has_20 (by decide) (fun c0 => ?_) (fun c0 => ?_)
    · have c_20 : (fm_thI (fm_RB g) x) = false := fm_bI_f c0
      refine lv_iconst (v := nI (0)) hx hb d_MO_has_27 (by decide) ?_
      exact W.zret (ty := .boolean) hx hb hr (rfl) (fun t ht hW => ⟨congrArg (fun z => Outcome.returned (some (Value.int z))) (by first | exact fm_cF1 c_9 | exact fm_cT c_9 c_20 | exact fm_cF2 c_20), by rw [ht]; exact hP, hS.F ht⟩) hS.2.2 d_MO_has_28
    · have c_20 : (fm_thI (fm_RB g) x) = true := fm_bI_t c0
      refine lv_iconst (v := nI (1)) hx hb d_MO_has_23 (by decide) ?_
      refine lv_goto (tgt := 28) hx hb d_MO_has_24 (by decide) ?_
      exact W.zret (ty := .boolean) hx hb hr (rfl) (fun t ht hW => ⟨congrArg (fun z => Outcome.returned (some (Value.int z))) (by first | exact fm_cF1 c_9 | exact fm_cT c_9 c_20 | exact fm_cF2 c_20), by rw [ht]; exact hP, hS.F ht⟩) hS.2.2 d_MO_has_28
theorem d_MO_about_0 : decode b_MO_about 0 = .ok (.aload_n 0, 1) := by decide +kernel
theorem d_MO_about_1 : decode b_MO_about 1 = .ok (.aload_n 0, 1) := by decide +kernel
theorem d_MO_about_2 : decode b_MO_about 2 = .ok (.getfield 103, 3) := by decide +kernel
theorem d_MO_about_5 : decode b_MO_about 5 = .ok (.ifCond .ne 7, 3) := by decide +kernel
theorem d_MO_about_8 : decode b_MO_about 8 = .ok (.iconst 1, 1) := by decide +kernel
theorem d_MO_about_9 : decode b_MO_about 9 = .ok (.goto 18, 3) := by decide +kernel
theorem d_MO_about_12 : decode b_MO_about 12 = .ok (.iload_n 1, 1) := by decide +kernel
theorem d_MO_about_13 : decode b_MO_about 13 = .ok (.ifCond .lt 9, 3) := by decide +kernel
theorem d_MO_about_16 : decode b_MO_about 16 = .ok (.iload_n 1, 1) := by decide +kernel
theorem d_MO_about_17 : decode b_MO_about 17 = .ok (.bipush 6, 2) := by decide +kernel
theorem d_MO_about_19 : decode b_MO_about 19 = .ok (.if_icmp .le 7, 3) := by decide +kernel
theorem d_MO_about_22 : decode b_MO_about 22 = .ok (.iconst 2, 1) := by decide +kernel
theorem d_MO_about_23 : decode b_MO_about 23 = .ok (.goto 4, 3) := by decide +kernel
theorem d_MO_about_26 : decode b_MO_about 26 = .ok (.iconst 0, 1) := by decide +kernel
theorem d_MO_about_27 : decode b_MO_about 27 = .ok (.putfield 26, 3) := by decide +kernel
theorem d_MO_about_30 : decode b_MO_about 30 = .ok (.aload_n 0, 1) := by decide +kernel
theorem d_MO_about_31 : decode b_MO_about 31 = .ok (.getfield 26, 3) := by decide +kernel
theorem d_MO_about_34 : decode b_MO_about 34 = .ok (.ifCond .le 5, 3) := by decide +kernel
theorem d_MO_about_37 : decode b_MO_about 37 = .ok (.iconst 0, 1) := by decide +kernel
theorem d_MO_about_38 : decode b_MO_about 38 = .ok (.ireturn, 1) := by decide +kernel
theorem d_MO_about_39 : decode b_MO_about 39 = .ok (.iload_n 1, 1) := by decide +kernel
theorem d_MO_about_40 : decode b_MO_about 40 = .ok (.tableswitch 91 0 5 #[40, 49, 58, 63, 73, 83], 40) := by decide +kernel
theorem d_MO_about_80 : decode b_MO_about 80 = .ok (.aload_n 0, 1) := by decide +kernel
theorem d_MO_about_81 : decode b_MO_about 81 = .ok (.getfield 13, 3) := by decide +kernel
theorem d_MO_about_84 : decode b_MO_about 84 = .ok (.iconst 2, 1) := by decide +kernel
theorem d_MO_about_85 : decode b_MO_about 85 = .ok (.invokestatic 33, 3) := by decide +kernel
theorem d_MO_about_88 : decode b_MO_about 88 = .ok (.ireturn, 1) := by decide +kernel
theorem d_MO_about_89 : decode b_MO_about 89 = .ok (.aload_n 0, 1) := by decide +kernel
theorem d_MO_about_90 : decode b_MO_about 90 = .ok (.getfield 13, 3) := by decide +kernel
theorem d_MO_about_93 : decode b_MO_about 93 = .ok (.iconst 3, 1) := by decide +kernel
theorem d_MO_about_94 : decode b_MO_about 94 = .ok (.invokestatic 33, 3) := by decide +kernel
theorem d_MO_about_97 : decode b_MO_about 97 = .ok (.ireturn, 1) := by decide +kernel
theorem d_MO_about_98 : decode b_MO_about 98 = .ok (.aload_n 0, 1) := by decide +kernel
theorem d_MO_about_99 : decode b_MO_about 99 = .ok (.getfield 107, 3) := by decide +kernel
theorem d_MO_about_102 : decode b_MO_about 102 = .ok (.ireturn, 1) := by decide +kernel
theorem d_MO_about_103 : decode b_MO_about 103 = .ok (.aload_n 0, 1) := by decide +kernel
theorem d_MO_about_104 : decode b_MO_about 104 = .ok (.getfield 13, 3) := by decide +kernel
theorem d_MO_about_107 : decode b_MO_about 107 = .ok (.invokestatic 78, 3) := by decide +kernel
theorem d_MO_about_110 : decode b_MO_about 110 = .ok (.iconst 4, 1) := by decide +kernel
theorem d_MO_about_111 : decode b_MO_about 111 = .ok (.ishr, 1) := by decide +kernel
theorem d_MO_about_112 : decode b_MO_about 112 = .ok (.ireturn, 1) := by decide +kernel
theorem d_MO_about_113 : decode b_MO_about 113 = .ok (.aload_n 0, 1) := by decide +kernel
theorem d_MO_about_114 : decode b_MO_about 114 = .ok (.getfield 13, 3) := by decide +kernel
theorem d_MO_about_117 : decode b_MO_about 117 = .ok (.bipush 9, 2) := by decide +kernel
theorem d_MO_about_119 : decode b_MO_about 119 = .ok (.invokestatic 37, 3) := by decide +kernel
theorem d_MO_about_122 : decode b_MO_about 122 = .ok (.ireturn, 1) := by decide +kernel
theorem d_MO_about_123 : decode b_MO_about 123 = .ok (.aload_n 0, 1) := by decide +kernel
theorem d_MO_about_124 : decode b_MO_about 124 = .ok (.getfield 13, 3) := by decide +kernel
theorem d_MO_about_127 : decode b_MO_about 127 = .ok (.invokestatic 67, 3) := by decide +kernel
theorem d_MO_about_130 : decode b_MO_about 130 = .ok (.ireturn, 1) := by decide +kernel
theorem d_MO_about_131 : decode b_MO_about 131 = .ok (.aload_n 0, 1) := by decide +kernel
theorem d_MO_about_132 : decode b_MO_about 132 = .ok (.getfield 13, 3) := by decide +kernel
theorem d_MO_about_135 : decode b_MO_about 135 = .ok (.invokestatic 121, 3) := by decide +kernel
theorem d_MO_about_138 : decode b_MO_about 138 = .ok (.ifCond .ge 7, 3) := by decide +kernel
theorem d_MO_about_141 : decode b_MO_about 141 = .ok (.iconst 0, 1) := by decide +kernel
theorem d_MO_about_142 : decode b_MO_about 142 = .ok (.goto 4, 3) := by decide +kernel
theorem d_MO_about_145 : decode b_MO_about 145 = .ok (.iconst 1, 1) := by decide +kernel
theorem d_MO_about_146 : decode b_MO_about 146 = .ok (.ireturn, 1) := by decide +kernel
set_option maxHeartbeats 4000000 in
set_option maxRecDepth 100000 in
theorem c_MO_aboutU (l : Launch) (dC : Nat → ClassId) (dI : Nat → Nat → Nat) (h : Nat) (th : Int32) (fa : Nat) (n0 : Int32) (ga : Nat) (sz : Int32) (ra : Nat) (rz : Int32) (ka : Nat) (wa : Nat) (ct : Int32) (x : Int32)  : fm_MW l (dC, dI) y_MO_about w_MO_about ({ frames := 0, cells := 0, slots := 0, locals := 0 }) [.ref h, .int (x)] [(h, .inr (4, [.int (th), .ref fa, .int (n0), .ref ga, .int (nI (0)), .int (sz), .ref ra, .int (rz), .ref ka, .ref wa, .int (ct)]))] [(h, .inr (4, [.int (nI (1)), .ref fa, .int (n0), .ref ga, .int (nI (0)), .int (sz), .ref ra, .int (rz), .ref ka, .ref wa, .int (ct)]))] [] (some (.int (nI (0)))) := by
  refine Met.ofW (cc := b_MO_about) (maxL := 2) (ret := (some .int)) (by decide) rfl ?_
  intro pg ev s m args below meth cd s₁ BD hml hv
  obtain ⟨rfl, hP, hK, hD0⟩ := hv
  have hx := BD.exec
  have hb := BD.bytes
  have hr := BD.returns
  have hts := atoms_spec (ws := w_MO_about) BD.pre
  have ht : ∀ w ∈ fm_T, w.before _ s = true := fun w h => hts w (List.mem_cons_of_mem _ h)
  have hown : s.vm.findClass R_MO = some m.cls := findClass_of_methodNamed BD.named
  have hlocks := BD.notSynchronized
  have S : CallFix pg m cd b_MO_about 2 s _ w_MO_about R_MO := ⟨hx, hb, hml, hown, hts⟩
  have hD := fm_selfD hD0
  generalize fm_A [(h, .inr (4, [.int (th), .ref fa, .int (n0), .ref ga, .int (nI (0)), .int (sz), .ref ra, .int (rz), .ref ka, .ref wa, .int (ct)]))] = A at hD ⊢
  have hS : va_S A s.heap s.heap [] := va_S.rf
  have hl := lv_entry ([.ref h, .int (x)]) (n := 2) (Nat.le_of_ble_eq_true rfl)
  rw [lg_entry_eq]
  generalize (lg_sl ([.ref h, .int (x)]) ++ List.replicate (2 - (lg_sl ([.ref h, .int (x)])).length) Slot.unset).toArray = ls at hl ⊢
  have hl : lv_has ls 2 [(0, .ref h), (1, .int (x))] := hl
  refine lv_aload_n hx hb d_MO_about_0 rfl (lv_at hl 0 rfl) ?_
  refine lv_aload_n hx hb d_MO_about_1 rfl (lv_at hl 0 rfl) ?_
  refine va_get (D := (dC, dI)) (ci := 4) (v := .int (nI (0))) (C := R_MO) (T := F_MO) (N := 11) hx hb ht i_MO hown hK hP 0 rfl rfl 4 (by decide) (ht _ q_3_117) (fun _ h9 => h9) rfl d_MO_about_2 ?_
  refine lv_if_ne (tgt := 12) hx hb d_MO_about_5 (by decide) (fun c0 => ?_) (fun c0 => ?_)
  · have c_5 : ¬ (0 = 0) := fun z => c0 ((nI_eq (a := 0) (b := 0) (by omega) (by omega)).mpr z)
    exact absurd c_5 (by decide)
  · have c_5 : 0 = 0 := (nI_eq (a := 0) (b := 0) (by omega) (by omega)).mp c0
    refine lv_iconst (v := nI (1)) hx hb d_MO_about_8 (by decide) ?_
    refine lv_goto (tgt := 27) hx hb d_MO_about_9 (by decide) ?_
    refine va_put (D := (dC, dI)) (ci := 4) (v := .int (nI (1))) (ty := .int) (C := R_MO) (T := F_MO) (N := 11) hx hb ht i_MO t_MO t_MO_ok n_MO hown hK hP hD hS 0 rfl rfl 0 (by decide) (ht _ q_3_113) (fun _ h9 => h9) rfl (by decide +kernel) (rfl) (rfl) (Nat.le_of_ble_eq_true rfl) d_MO_about_27 (fun H locs hP hD hS => ?_)
    have hP : va_P (dC, dI) classes [(h, .inr (4, [.int (nI (1)), .ref fa, .int (n0), .ref ga, .int (nI (0)), .int (sz), .ref ra, .int (rz), .ref ka, .ref wa, .int (ct)]))] _ := hP
    have hD : va_D A [(h, .inr (4, [.int (nI (1)), .ref fa, .int (n0), .ref ga, .int (nI (0)), .int (sz), .ref ra, .int (rz), .ref ka, .ref wa, .int (ct)]))] := hD
    refine lv_aload_n hx hb d_MO_about_30 rfl (lv_at hl 0 rfl) ?_
    refine va_get (D := (dC, dI)) (ci := 4) (v := .int (nI (1))) (C := R_MO) (T := F_MO) (N := 11) hx hb ht i_MO hown hK hP 0 rfl rfl 0 (by decide) (ht _ q_3_113) (fun _ h9 => h9) rfl d_MO_about_31 ?_
    refine lv_if_le (tgt := 39) hx hb d_MO_about_34 (by decide) (fun c0 => ?_) (fun c0 => ?_)
    · have c_34 : 1 ≤ 0 := (nI_leI (a := 1) (b := 0) (by omega) (by omega)).mp c0
      exact absurd c_34 (by decide)
    · have c_34 : ¬ (1 ≤ 0) := fun z => c0 ((nI_leI (a := 1) (b := 0) (by omega) (by omega)).mpr z)
      refine lv_iconst (v := nI (0)) hx hb d_MO_about_37 (by decide) ?_
      exact W.iret hx hb hr (fun t ht hW => ⟨congrArg (fun z => Outcome.returned (some (Value.int z))) (rfl), by rw [ht]; exact hP, hS.F ht⟩) hS.2.2 d_MO_about_38
set_option maxHeartbeats 4000000 in
set_option maxRecDepth 100000 in
theorem c_MO_aboutN (l : Launch) (dC : Nat → ClassId) (dI : Nat → Nat → Nat) (h : Nat) (th : Int32) (fa : Nat) (n0 : Int32) (ga : Nat) (ra : Nat) (rz : Int32) (ka : Nat) (wa : Nat) (ct : Int32) (s0 : Nat) (cB : ClassId) (g : Nat → Int32) (x : Int32) (hno : x < 0 ∨ nI 6 < x) : fm_MW l (dC, dI) y_MO_about w_MO_about ({ frames := 0, cells := 0, slots := 0, locals := 0 }) [.ref h, .int (x)] [(h, .inr (4, [.int (th), .ref fa, .int (n0), .ref ga, .int (nI (1)), .int (nI (s0)), .ref ra, .int (rz), .ref ka, .ref wa, .int (ct)])), (ga, .inl (cB, 8192, .inl (g)))] [(h, .inr (4, [.int (nI (2)), .ref fa, .int (n0), .ref ga, .int (nI (1)), .int (nI (s0)), .ref ra, .int (rz), .ref ka, .ref wa, .int (ct)])), (ga, .inl (cB, 8192, .inl (g)))] [(cB, .byte)] (some (.int (nI (0)))) := by
  refine Met.ofW (cc := b_MO_about) (maxL := 2) (ret := (some .int)) (by decide) rfl ?_
  intro pg ev s m args below meth cd s₁ BD hml hv
  obtain ⟨rfl, hP, hK, hD0⟩ := hv
  have hx := BD.exec
  have hb := BD.bytes
  have hr := BD.returns
  have hts := atoms_spec (ws := w_MO_about) BD.pre
  have ht : ∀ w ∈ fm_T, w.before _ s = true := fun w h => hts w (List.mem_cons_of_mem _ h)
  have hown : s.vm.findClass R_MO = some m.cls := findClass_of_methodNamed BD.named
  have hlocks := BD.notSynchronized
  have S : CallFix pg m cd b_MO_about 2 s _ w_MO_about R_MO := ⟨hx, hb, hml, hown, hts⟩
  have hD := fm_selfD hD0
  generalize fm_A [(h, .inr (4, [.int (th), .ref fa, .int (n0), .ref ga, .int (nI (1)), .int (nI (s0)), .ref ra, .int (rz), .ref ka, .ref wa, .int (ct)])), (ga, .inl (cB, 8192, .inl (g)))] = A at hD ⊢
  have hS : va_S A s.heap s.heap [] := va_S.rf
  have hl := lv_entry ([.ref h, .int (x)]) (n := 2) (Nat.le_of_ble_eq_true rfl)
  rw [lg_entry_eq]
  generalize (lg_sl ([.ref h, .int (x)]) ++ List.replicate (2 - (lg_sl ([.ref h, .int (x)])).length) Slot.unset).toArray = ls at hl ⊢
  have hl : lv_has ls 2 [(0, .ref h), (1, .int (x))] := hl
  refine lv_aload_n hx hb d_MO_about_0 rfl (lv_at hl 0 rfl) ?_
  refine lv_aload_n hx hb d_MO_about_1 rfl (lv_at hl 0 rfl) ?_
  refine va_get (D := (dC, dI)) (ci := 4) (v := .int (nI (1))) (C := R_MO) (T := F_MO) (N := 11) hx hb ht i_MO hown hK hP 0 rfl rfl 4 (by decide) (ht _ q_3_117) (fun _ h9 => h9) rfl d_MO_about_2 ?_
  refine lv_if_ne (tgt := 12) hx hb d_MO_about_5 (by decide) (fun c0 => ?_) (fun c0 => ?_)
  · have c_5 : ¬ (1 = 0) := fun z => c0 ((nI_eq (a := 1) (b := 0) (by omega) (by omega)).mpr z)
    refine lv_iload_n hx hb d_MO_about_12 rfl (lv_at hl 1 rfl) ?_
    refine lv_if_lt (tgt := 22) hx hb d_MO_about_13 (by decide) (fun c0 => ?_) (fun c0 => ?_)
    · have c_13 := c0
      refine lv_iconst (v := nI (2)) hx hb d_MO_about_22 (by decide) ?_
      refine lv_goto (tgt := 27) hx hb d_MO_about_23 (by decide) ?_
      refine va_put (D := (dC, dI)) (ci := 4) (v := .int (nI (2))) (ty := .int) (C := R_MO) (T := F_MO) (N := 11) hx hb ht i_MO t_MO t_MO_ok n_MO hown hK hP hD hS 0 rfl rfl 0 (by decide) (ht _ q_3_113) (fun _ h9 => h9) rfl (by decide +kernel) (rfl) (rfl) (Nat.le_of_ble_eq_true rfl) d_MO_about_27 (fun H locs hP hD hS => ?_)
      have hP : va_P (dC, dI) classes [(h, .inr (4, [.int (nI (2)), .ref fa, .int (n0), .ref ga, .int (nI (1)), .int (nI (s0)), .ref ra, .int (rz), .ref ka, .ref wa, .int (ct)])), (ga, .inl (cB, 8192, .inl (g)))] _ := hP
      have hD : va_D A [(h, .inr (4, [.int (nI (2)), .ref fa, .int (n0), .ref ga, .int (nI (1)), .int (nI (s0)), .ref ra, .int (rz), .ref ka, .ref wa, .int (ct)])), (ga, .inl (cB, 8192, .inl (g)))] := hD
      refine lv_aload_n hx hb d_MO_about_30 rfl (lv_at hl 0 rfl) ?_
      refine va_get (D := (dC, dI)) (ci := 4) (v := .int (nI (2))) (C := R_MO) (T := F_MO) (N := 11) hx hb ht i_MO hown hK hP 0 rfl rfl 0 (by decide) (ht _ q_3_113) (fun _ h9 => h9) rfl d_MO_about_31 ?_
      refine lv_if_le (tgt := 39) hx hb d_MO_about_34 (by decide) (fun c0 => ?_) (fun c0 => ?_)
      · have c_34 : 2 ≤ 0 := (nI_leI (a := 2) (b := 0) (by omega) (by omega)).mp c0
        exact absurd c_34 (by decide)
      · have c_34 : ¬ (2 ≤ 0) := fun z => c0 ((nI_leI (a := 2) (b := 0) (by omega) (by omega)).mpr z)
        refine lv_iconst (v := nI (0)) hx hb d_MO_about_37 (by decide) ?_
        exact W.iret hx hb hr (fun t ht hW => ⟨congrArg (fun z => Outcome.returned (some (Value.int z))) (rfl), by rw [ht]; exact hP, hS.F ht⟩) hS.2.2 d_MO_about_38
    · have c_13 := c0
      refine lv_iload_n hx hb d_MO_about_16 rfl (lv_at hl 1 rfl) ?_
      refine lv_bipush (v := nI (6)) hx hb d_MO_about_17 (by decide) ?_
      refine lv_icmp_le (tgt := 26) hx hb d_MO_about_19 (by decide) (fun c0 => ?_) (fun c0 => ?_)
      · have c_19 := c0
        exact absurd c_19 (Int32.not_le.mpr (hno.resolve_left c_13))
      · have c_19 := c0
        refine lv_iconst (v := nI (2)) hx hb d_MO_about_22 (by decide) ?_
        refine lv_goto (tgt := 27) hx hb d_MO_about_23 (by decide) ?_
        refine va_put (D := (dC, dI)) (ci := 4) (v := .int (nI (2))) (ty := .int) (C := R_MO) (T := F_MO) (N := 11) hx hb ht i_MO t_MO t_MO_ok n_MO hown hK hP hD hS 0 rfl rfl 0 (by decide) (ht _ q_3_113) (fun _ h9 => h9) rfl (by decide +kernel) (rfl) (rfl) (Nat.le_of_ble_eq_true rfl) d_MO_about_27 (fun H locs hP hD hS => ?_)
        have hP : va_P (dC, dI) classes [(h, .inr (4, [.int (nI (2)), .ref fa, .int (n0), .ref ga, .int (nI (1)), .int (nI (s0)), .ref ra, .int (rz), .ref ka, .ref wa, .int (ct)])), (ga, .inl (cB, 8192, .inl (g)))] _ := hP
        have hD : va_D A [(h, .inr (4, [.int (nI (2)), .ref fa, .int (n0), .ref ga, .int (nI (1)), .int (nI (s0)), .ref ra, .int (rz), .ref ka, .ref wa, .int (ct)])), (ga, .inl (cB, 8192, .inl (g)))] := hD
        refine lv_aload_n hx hb d_MO_about_30 rfl (lv_at hl 0 rfl) ?_
        refine va_get (D := (dC, dI)) (ci := 4) (v := .int (nI (2))) (C := R_MO) (T := F_MO) (N := 11) hx hb ht i_MO hown hK hP 0 rfl rfl 0 (by decide) (ht _ q_3_113) (fun _ h9 => h9) rfl d_MO_about_31 ?_
        refine lv_if_le (tgt := 39) hx hb d_MO_about_34 (by decide) (fun c0 => ?_) (fun c0 => ?_)
        · have c_34 : 2 ≤ 0 := (nI_leI (a := 2) (b := 0) (by omega) (by omega)).mp c0
          exact absurd c_34 (by decide)
        · have c_34 : ¬ (2 ≤ 0) := fun z => c0 ((nI_leI (a := 2) (b := 0) (by omega) (by omega)).mpr z)
          refine lv_iconst (v := nI (0)) hx hb d_MO_about_37 (by decide) ?_
          exact W.iret hx hb hr (fun t ht hW => ⟨congrArg (fun z => Outcome.returned (some (Value.int z))) (rfl), by rw [ht]; exact hP, hS.F ht⟩) hS.2.2 d_MO_about_38
  · have c_5 : 1 = 0 := (nI_eq (a := 1) (b := 0) (by omega) (by omega)).mp c0
    exact absurd c_5 (by decide)
set_option maxHeartbeats 4000000 in
set_option maxRecDepth 100000 in
theorem c_MO_aboutY (l : Launch) (dC : Nat → ClassId) (dI : Nat → Nat → Nat) (h : Nat) (th : Int32) (fa : Nat) (n0 : Int32) (ga : Nat) (ra : Nat) (rz : Int32) (ka : Nat) (wa : Nat) (ct : Int32) (s0 : Nat) (cB : ClassId) (g : Nat → Int32) (v : Nat) (hL : fm_Len (fm_RB g)) (hv : v < 7) : fm_MW l (dC, dI) y_MO_about w_MO_about ({ frames := 6, cells := 0, slots := 0, locals := 130 }) [.ref h, .int (nI (v))] [(h, .inr (4, [.int (th), .ref fa, .int (n0), .ref ga, .int (nI (1)), .int (nI (s0)), .ref ra, .int (rz), .ref ka, .ref wa, .int (ct)])), (ga, .inl (cB, 8192, .inl (g)))] [(h, .inr (4, [.int (nI (0)), .ref fa, .int (n0), .ref ga, .int (nI (1)), .int (nI (s0)), .ref ra, .int (rz), .ref ka, .ref wa, .int (ct)])), (ga, .inl (cB, 8192, .inl (g)))] [(cB, .byte)] (some (.int (fm_ab (fm_RB g) s0 v))) := by
  refine Met.ofW (cc := b_MO_about) (maxL := 2) (ret := (some .int)) (by decide) rfl ?_
  intro pg ev s m args below meth cd s₁ BD hml hv
  obtain ⟨rfl, hP, hK, hD0⟩ := hv
  have hx := BD.exec
  have hb := BD.bytes
  have hr := BD.returns
  have hts := atoms_spec (ws := w_MO_about) BD.pre
  have ht : ∀ w ∈ fm_T, w.before _ s = true := fun w h => hts w (List.mem_cons_of_mem _ h)
  have hown : s.vm.findClass R_MO = some m.cls := findClass_of_methodNamed BD.named
  have hlocks := BD.notSynchronized
  have S : CallFix pg m cd b_MO_about 2 s _ w_MO_about R_MO := ⟨hx, hb, hml, hown, hts⟩
  have hD := fm_selfD hD0
  generalize fm_A [(h, .inr (4, [.int (th), .ref fa, .int (n0), .ref ga, .int (nI (1)), .int (nI (s0)), .ref ra, .int (rz), .ref ka, .ref wa, .int (ct)])), (ga, .inl (cB, 8192, .inl (g)))] = A at hD ⊢
  have hS : va_S A s.heap s.heap [] := va_S.rf
  have hl := lv_entry ([.ref h, .int (nI (v))]) (n := 2) (Nat.le_of_ble_eq_true rfl)
  rw [lg_entry_eq]
  generalize (lg_sl ([.ref h, .int (nI (v))]) ++ List.replicate (2 - (lg_sl ([.ref h, .int (nI (v))])).length) Slot.unset).toArray = ls at hl ⊢
  have hl : lv_has ls 2 [(0, .ref h), (1, .int (nI (v)))] := hl
  obtain ⟨-, hq, h3, h10⟩ := id hL
  refine lv_aload_n hx hb d_MO_about_0 rfl (lv_at hl 0 rfl) ?_
  refine lv_aload_n hx hb d_MO_about_1 rfl (lv_at hl 0 rfl) ?_
  refine va_get (D := (dC, dI)) (ci := 4) (v := .int (nI (1))) (C := R_MO) (T := F_MO) (N := 11) hx hb ht i_MO hown hK hP 0 rfl rfl 4 (by decide) (ht _ q_3_117) (fun _ h9 => h9) rfl d_MO_about_2 ?_
  refine lv_if_ne (tgt := 12) hx hb d_MO_about_5 (by decide) (fun c0 => ?_) (fun c0 => ?_)
  · have c_5 : ¬ (1 = 0) := fun z => c0 ((nI_eq (a := 1) (b := 0) (by omega) (by omega)).mpr z)
    refine lv_iload_n hx hb d_MO_about_12 rfl (lv_at hl 1 rfl) ?_
    refine lv_if_lt (tgt := 22) hx hb d_MO_about_13 (by decide) (fun c0 => ?_) (fun c0 => ?_)
    · have c_13 : v < 0 := (nI_ltI (a := v) (b := 0) (by omega) (by omega)).mp c0
      exact absurd c_13 (by omega)
    · have c_13 : ¬ (v < 0) := fun z => c0 ((nI_ltI (a := v) (b := 0) (by omega) (by omega)).mpr z)
      refine lv_iload_n hx hb d_MO_about_16 rfl (lv_at hl 1 rfl) ?_
      refine lv_bipush (v := nI (6)) hx hb d_MO_about_17 (by decide) ?_
      refine lv_icmp_le (tgt := 26) hx hb d_MO_about_19 (by decide) (fun c0 => ?_) (fun c0 => ?_)
      · have c_19 : v ≤ 6 := (nI_leI (a := v) (b := 6) (by omega) (by omega)).mp c0
        refine lv_iconst (v := nI (0)) hx hb d_MO_about_26 (by decide) ?_
        refine va_put (D := (dC, dI)) (ci := 4) (v := .int (nI (0))) (ty := .int) (C := R_MO) (T := F_MO) (N := 11) hx hb ht i_MO t_MO t_MO_ok n_MO hown hK hP hD hS 0 rfl rfl 0 (by decide) (ht _ q_3_113) (fun _ h9 => h9) rfl (by decide +kernel) (rfl) (rfl) (Nat.le_of_ble_eq_true rfl) d_MO_about_27 (fun H locs hP hD hS => ?_)
        have hP : va_P (dC, dI) classes [(h, .inr (4, [.int (nI (0)), .ref fa, .int (n0), .ref ga, .int (nI (1)), .int (nI (s0)), .ref ra, .int (rz), .ref ka, .ref wa, .int (ct)])), (ga, .inl (cB, 8192, .inl (g)))] _ := hP
        have hD : va_D A [(h, .inr (4, [.int (nI (0)), .ref fa, .int (n0), .ref ga, .int (nI (1)), .int (nI (s0)), .ref ra, .int (rz), .ref ka, .ref wa, .int (ct)])), (ga, .inl (cB, 8192, .inl (g)))] := hD
        refine lv_aload_n hx hb d_MO_about_30 rfl (lv_at hl 0 rfl) ?_
        refine va_get (D := (dC, dI)) (ci := 4) (v := .int (nI (0))) (C := R_MO) (T := F_MO) (N := 11) hx hb ht i_MO hown hK hP 0 rfl rfl 0 (by decide) (ht _ q_3_113) (fun _ h9 => h9) rfl d_MO_about_31 ?_
        refine lv_if_le (tgt := 39) hx hb d_MO_about_34 (by decide) (fun c0 => ?_) (fun c0 => ?_)
        · have c_34 : 0 ≤ 0 := (nI_leI (a := 0) (b := 0) (by omega) (by omega)).mp c0
          refine lv_iload_n hx hb d_MO_about_39 rfl (lv_at hl 1 rfl) ?_
          rcases (show v = 0 ∨ v = 1 ∨ v = 2 ∨ v = 3 ∨ v = 4 ∨ v = 5 ∨ v = 6 by omega) with e_40 | e_40 | e_40 | e_40 | e_40 | e_40 | e_40
          · refine fm_tw (z := nI 0) (by rw [e_40]) ?_
            refine lv_tableIn (off := 40) (tgt := 80) hx hb d_MO_about_40 (by decide) (by decide) (by decide) (by decide) ?_
            refine lv_aload_n hx hb d_MO_about_80 rfl (lv_at hl 0 rfl) ?_
            refine va_get (D := (dC, dI)) (ci := 4) (v := .ref ga) (C := R_MO) (T := F_MO) (N := 11) hx hb ht i_MO hown hK hP 0 rfl rfl 3 (by decide) (ht _ q_3_116) (fun _ h9 => h9) rfl d_MO_about_81 ?_
            refine lv_iconst (v := nI (2)) hx hb d_MO_about_84 (by decide) ?_
            refine fm_cs S (c_MO_half l dC dI ga cB g 2 (by omega)) rfl rfl k_MO_half q_3_172 ⟨Nat.le_of_ble_eq_true rfl, Nat.le_of_ble_eq_true rfl⟩ (hP.sub [1] rfl) (hK.sub [0] rfl) rfl hl.1 rfl (Nat.le_of_ble_eq_true rfl) ⟨Nat.zero_le _, Nat.zero_le _⟩ d_MO_about_85 ?_
            have f0_85 := fm_HF_lt (fm_RB_lt g) 2
            exact W.iret hx hb hr (fun t ht hW => ⟨congrArg (fun z => Outcome.returned (some (Value.int z))) (by subst e_40; first | rfl | (show _ = if fm_ep (fm_RB g) < 0 then nI 0 else nI 1; first | (rw [if_pos (Int32.not_le.mp c_138)]; done) | (rw [if_neg (Int32.not_lt.mpr c_138)]; done))), by rw [ht]; exact hP, hS.F ht⟩) hS.2.2 d_MO_about_88
          · refine fm_tw (z := nI 1) (by rw [e_40]) ?_
            refine lv_tableIn (off := 49) (tgt := 89) hx hb d_MO_about_40 (by decide) (by decide) (by decide) (by decide) ?_
            refine lv_aload_n hx hb d_MO_about_89 rfl (lv_at hl 0 rfl) ?_
            refine va_get (D := (dC, dI)) (ci := 4) (v := .ref ga) (C := R_MO) (T := F_MO) (N := 11) hx hb ht i_MO hown hK hP 0 rfl rfl 3 (by decide) (ht _ q_3_116) (fun _ h9 => h9) rfl d_MO_about_90 ?_
            refine lv_iconst (v := nI (3)) hx hb d_MO_about_93 (by decide) ?_
            refine fm_cs S (c_MO_half l dC dI ga cB g 3 (by omega)) rfl rfl k_MO_half q_3_172 ⟨Nat.le_of_ble_eq_true rfl, Nat.le_of_ble_eq_true rfl⟩ (hP.sub [1] rfl) (hK.sub [0] rfl) rfl hl.1 rfl (Nat.le_of_ble_eq_true rfl) ⟨Nat.zero_le _, Nat.zero_le _⟩ d_MO_about_94 ?_
            have f0_94 := fm_HF_lt (fm_RB_lt g) 3
            exact W.iret hx hb hr (fun t ht hW => ⟨congrArg (fun z => Outcome.returned (some (Value.int z))) (by subst e_40; first | rfl | (show _ = if fm_ep (fm_RB g) < 0 then nI 0 else nI 1; first | (rw [if_pos (Int32.not_le.mp c_138)]; done) | (rw [if_neg (Int32.not_lt.mpr c_138)]; done))), by rw [ht]; exact hP, hS.F ht⟩) hS.2.2 d_MO_about_97
          · refine fm_tw (z := nI 2) (by rw [e_40]) ?_
            refine lv_tableIn (off := 58) (tgt := 98) hx hb d_MO_about_40 (by decide) (by decide) (by decide) (by decide) ?_
            refine lv_aload_n hx hb d_MO_about_98 rfl (lv_at hl 0 rfl) ?_
            refine va_get (D := (dC, dI)) (ci := 4) (v := .int (nI (s0))) (C := R_MO) (T := F_MO) (N := 11) hx hb ht i_MO hown hK hP 0 rfl rfl 5 (by decide) (ht _ q_3_118) (fun _ h9 => h9) rfl d_MO_about_99 ?_
            exact W.iret hx hb hr (fun t ht hW => ⟨congrArg (fun z => Outcome.returned (some (Value.int z))) (by subst e_40; first | rfl | (show _ = if fm_ep (fm_RB g) < 0 then nI 0 else nI 1; first | (rw [if_pos (Int32.not_le.mp c_138)]; done) | (rw [if_neg (Int32.not_lt.mpr c_138)]; done))), by rw [ht]; exact hP, hS.F ht⟩) hS.2.2 d_MO_about_102
          · refine fm_tw (z := nI 3) (by rw [e_40]) ?_
            refine lv_tableIn (off := 63) (tgt := 103) hx hb d_MO_about_40 (by decide) (by decide) (by decide) (by decide) ?_
            refine lv_aload_n hx hb d_MO_about_103 rfl (lv_at hl 0 rfl) ?_
            refine va_get (D := (dC, dI)) (ci := 4) (v := .ref ga) (C := R_MO) (T := F_MO) (N := 11) hx hb ht i_MO hown hK hP 0 rfl rfl 3 (by decide) (ht _ q_3_116) (fun _ h9 => h9) rfl d_MO_about_104 ?_
            refine fm_cs S (c_MO_designOf l dC dI ga cB g (hL)) rfl rfl k_MO_designOf q_3_181 ⟨Nat.le_of_ble_eq_true rfl, Nat.le_of_ble_eq_true rfl⟩ (hP.sub [1] rfl) (hK.sub [0] rfl) rfl hl.1 rfl (Nat.le_of_ble_eq_true rfl) ⟨Nat.zero_le _, Nat.zero_le _⟩ d_MO_about_107 ?_
            refine lv_iconst (v := nI (4)) hx hb d_MO_about_110 (by decide) ?_
            refine lv_ishr hx hb d_MO_about_111 ?_
            exact W.iret hx hb hr (fun t ht hW => ⟨congrArg (fun z => Outcome.returned (some (Value.int z))) (by subst e_40; first | rfl | (show _ = if fm_ep (fm_RB g) < 0 then nI 0 else nI 1; first | (rw [if_pos (Int32.not_le.mp c_138)]; done) | (rw [if_neg (Int32.not_lt.mpr c_138)]; done))), by rw [ht]; exact hP, hS.F ht⟩) hS.2.2 d_MO_about_112
          · refine fm_tw (z := nI 4) (by rw [e_40]) ?_
            refine lv_tableIn (off := 73) (tgt := 113) hx hb d_MO_about_40 (by decide) (by decide) (by decide) (by decide) ?_
            refine lv_aload_n hx hb d_MO_about_113 rfl (lv_at hl 0 rfl) ?_
            refine va_get (D := (dC, dI)) (ci := 4) (v := .ref ga) (C := R_MO) (T := F_MO) (N := 11) hx hb ht i_MO hown hK hP 0 rfl rfl 3 (by decide) (ht _ q_3_116) (fun _ h9 => h9) rfl d_MO_about_114 ?_
            refine lv_bipush (v := nI (9)) hx hb d_MO_about_117 (by decide) ?_
            refine fm_cs S (c_MO_words l dC dI ga cB g 9 (by omega) (fun z => by omega)) rfl rfl k_MO_words q_3_175 ⟨Nat.le_of_ble_eq_true rfl, Nat.le_of_ble_eq_true rfl⟩ (hP.sub [1] rfl) (hK.sub [0] rfl) rfl hl.1 rfl (Nat.le_of_ble_eq_true rfl) ⟨Nat.zero_le _, Nat.zero_le _⟩ d_MO_about_119 ?_
            have f0_119 := fm_WD_le (fm_RB_lt g) 9
            exact W.iret hx hb hr (fun t ht hW => ⟨congrArg (fun z => Outcome.returned (some (Value.int z))) (by subst e_40; first | rfl | (show _ = if fm_ep (fm_RB g) < 0 then nI 0 else nI 1; first | (rw [if_pos (Int32.not_le.mp c_138)]; done) | (rw [if_neg (Int32.not_lt.mpr c_138)]; done))), by rw [ht]; exact hP, hS.F ht⟩) hS.2.2 d_MO_about_122
          · refine fm_tw (z := nI 5) (by rw [e_40]) ?_
            refine lv_tableIn (off := 83) (tgt := 123) hx hb d_MO_about_40 (by decide) (by decide) (by decide) (by decide) ?_
            refine lv_aload_n hx hb d_MO_about_123 rfl (lv_at hl 0 rfl) ?_
            refine va_get (D := (dC, dI)) (ci := 4) (v := .ref ga) (C := R_MO) (T := F_MO) (N := 11) hx hb ht i_MO hown hK hP 0 rfl rfl 3 (by decide) (ht _ q_3_116) (fun _ h9 => h9) rfl d_MO_about_124 ?_
            refine fm_cs S (c_MO_edgeOf l dC dI ga cB g (hL)) rfl rfl k_MO_edgeOf q_3_221 ⟨Nat.le_of_ble_eq_true rfl, Nat.le_of_ble_eq_true rfl⟩ (hP.sub [1] rfl) (hK.sub [0] rfl) rfl hl.1 rfl (Nat.le_of_ble_eq_true rfl) ⟨Nat.zero_le _, Nat.zero_le _⟩ d_MO_about_127 ?_
            exact W.iret hx hb hr (fun t ht hW => ⟨congrArg (fun z => Outcome.returned (some (Value.int z))) (by subst e_40; first | rfl | (show _ = if fm_ep (fm_RB g) < 0 then nI 0 else nI 1; first | (rw [if_pos (Int32.not_le.mp c_138)]; done) | (rw [if_neg (Int32.not_lt.mpr c_138)]; done))), by rw [ht]; exact hP, hS.F ht⟩) hS.2.2 d_MO_about_130
          · refine fm_tw (z := nI 6) (by rw [e_40]) ?_
            refine lv_tableOut (tgt := 131) hx hb d_MO_about_40 (by decide) (by decide) ?_
            refine lv_aload_n hx hb d_MO_about_131 rfl (lv_at hl 0 rfl) ?_
            refine va_get (D := (dC, dI)) (ci := 4) (v := .ref ga) (C := R_MO) (T := F_MO) (N := 11) hx hb ht i_MO hown hK hP 0 rfl rfl 3 (by decide) (ht _ q_3_116) (fun _ h9 => h9) rfl d_MO_about_132 ?_
            refine fm_cs S (c_MO_edgeProgram l dC dI ga cB g (hL)) rfl rfl k_MO_edgeProgram q_3_231 ⟨Nat.le_of_ble_eq_true rfl, Nat.le_of_ble_eq_true rfl⟩ (hP.sub [1] rfl) (hK.sub [0] rfl) rfl hl.1 rfl (Nat.le_of_ble_eq_true rfl) ⟨Nat.zero_le _, Nat.zero_le _⟩ d_MO_about_135 ?_
            refine lv_if_ge (tgt := 145) hx hb d_MO_about_138 (by decide) (fun c0 => ?_) (fun c0 => ?_)
            · have c_138 := c0
              refine lv_iconst (v := nI (1)) hx hb d_MO_about_145 (by decide) ?_
              exact W.iret hx hb hr (fun t ht hW => ⟨congrArg (fun z => Outcome.returned (some (Value.int z))) (by subst e_40; first | rfl | (show _ = if fm_ep (fm_RB g) < 0 then nI 0 else nI 1; first | (rw [if_pos (Int32.not_le.mp c_138)]; done) | (rw [if_neg (Int32.not_lt.mpr c_138)]; done))), by rw [ht]; exact hP, hS.F ht⟩) hS.2.2 d_MO_about_146
            · have c_138 := c0
              refine lv_iconst (v := nI (0)) hx hb d_MO_about_141 (by decide) ?_
              refine lv_goto (tgt := 146) hx hb d_MO_about_142 (by decide) ?_
              exact W.iret hx hb hr (fun t ht hW => ⟨congrArg (fun z => Outcome.returned (some (Value.int z))) (by subst e_40; first | rfl | (show _ = if fm_ep (fm_RB g) < 0 then nI 0 else nI 1; first | (rw [if_pos (Int32.not_le.mp c_138)]; done) | (rw [if_neg (Int32.not_lt.mpr c_138)]; done))), by rw [ht]; exact hP, hS.F ht⟩) hS.2.2 d_MO_about_146
        · have c_34 : ¬ (0 ≤ 0) := fun z => c0 ((nI_leI (a := 0) (b := 0) (by omega) (by omega)).mpr z)
          exact absurd c_34 (by decide)
      · have c_19 : ¬ (v ≤ 6) := fun z => c0 ((nI_leI (a := v) (b := 6) (by omega) (by omega)).mpr z)
        exact absurd c_19 (by omega)
  · have c_5 : 1 = 0 := (nI_eq (a := 1) (b := 0) (by omega) (by omega)).mp c0
    exact absurd c_5 (by decide)
theorem d_MO_of_0 : decode b_MO_of 0 = .ok (.aload_n 0, 1) := by decide +kernel
theorem d_MO_of_1 : decode b_MO_of 1 = .ok (.aload_n 0, 1) := by decide +kernel
theorem d_MO_of_2 : decode b_MO_of 2 = .ok (.getfield 103, 3) := by decide +kernel
theorem d_MO_of_5 : decode b_MO_of 5 = .ok (.ifCond .ne 7, 3) := by decide +kernel
theorem d_MO_of_8 : decode b_MO_of 8 = .ok (.iconst 1, 1) := by decide +kernel
theorem d_MO_of_9 : decode b_MO_of 9 = .ok (.goto 28, 3) := by decide +kernel
theorem d_MO_of_12 : decode b_MO_of 12 = .ok (.aload_n 0, 1) := by decide +kernel
theorem d_MO_of_13 : decode b_MO_of 13 = .ok (.getfield 13, 3) := by decide +kernel
theorem d_MO_of_16 : decode b_MO_of 16 = .ok (.iload_n 1, 1) := by decide +kernel
theorem d_MO_of_17 : decode b_MO_of 17 = .ok (.invokestatic 53, 3) := by decide +kernel
theorem d_MO_of_20 : decode b_MO_of 20 = .ok (.ifCond .eq 12, 3) := by decide +kernel
theorem d_MO_of_23 : decode b_MO_of 23 = .ok (.iload_n 2, 1) := by decide +kernel
theorem d_MO_of_24 : decode b_MO_of 24 = .ok (.ifCond .lt 8, 3) := by decide +kernel
theorem d_MO_of_27 : decode b_MO_of 27 = .ok (.iload_n 2, 1) := by decide +kernel
theorem d_MO_of_28 : decode b_MO_of 28 = .ok (.iconst 5, 1) := by decide +kernel
theorem d_MO_of_29 : decode b_MO_of 29 = .ok (.if_icmp .le 7, 3) := by decide +kernel
theorem d_MO_of_32 : decode b_MO_of 32 = .ok (.iconst 2, 1) := by decide +kernel
theorem d_MO_of_33 : decode b_MO_of 33 = .ok (.goto 4, 3) := by decide +kernel
theorem d_MO_of_36 : decode b_MO_of 36 = .ok (.iconst 0, 1) := by decide +kernel
theorem d_MO_of_37 : decode b_MO_of 37 = .ok (.putfield 26, 3) := by decide +kernel
theorem d_MO_of_40 : decode b_MO_of 40 = .ok (.aload_n 0, 1) := by decide +kernel
theorem d_MO_of_41 : decode b_MO_of 41 = .ok (.getfield 26, 3) := by decide +kernel
theorem d_MO_of_44 : decode b_MO_of 44 = .ok (.ifCond .le 5, 3) := by decide +kernel
theorem d_MO_of_47 : decode b_MO_of 47 = .ok (.iconst 0, 1) := by decide +kernel
theorem d_MO_of_48 : decode b_MO_of 48 = .ok (.ireturn, 1) := by decide +kernel
theorem d_MO_of_49 : decode b_MO_of 49 = .ok (.iload_n 2, 1) := by decide +kernel
theorem d_MO_of_50 : decode b_MO_of 50 = .ok (.iconst 4, 1) := by decide +kernel
theorem d_MO_of_51 : decode b_MO_of 51 = .ok (.if_icmp .ne 14, 3) := by decide +kernel
theorem d_MO_of_54 : decode b_MO_of 54 = .ok (.aload_n 0, 1) := by decide +kernel
theorem d_MO_of_55 : decode b_MO_of 55 = .ok (.getfield 13, 3) := by decide +kernel
theorem d_MO_of_58 : decode b_MO_of 58 = .ok (.iload_n 1, 1) := by decide +kernel
theorem d_MO_of_59 : decode b_MO_of 59 = .ok (.invokestatic 57, 3) := by decide +kernel
theorem d_MO_of_62 : decode b_MO_of 62 = .ok (.goto 25, 3) := by decide +kernel
theorem d_MO_of_65 : decode b_MO_of 65 = .ok (.iload_n 2, 1) := by decide +kernel
theorem d_MO_of_66 : decode b_MO_of 66 = .ok (.iconst 5, 1) := by decide +kernel
theorem d_MO_of_67 : decode b_MO_of 67 = .ok (.if_icmp .ne 14, 3) := by decide +kernel
theorem d_MO_of_70 : decode b_MO_of 70 = .ok (.aload_n 0, 1) := by decide +kernel
theorem d_MO_of_71 : decode b_MO_of 71 = .ok (.getfield 13, 3) := by decide +kernel
theorem d_MO_of_74 : decode b_MO_of 74 = .ok (.iload_n 1, 1) := by decide +kernel
theorem d_MO_of_75 : decode b_MO_of 75 = .ok (.invokestatic 50, 3) := by decide +kernel
theorem d_MO_of_78 : decode b_MO_of 78 = .ok (.goto 9, 3) := by decide +kernel
theorem d_MO_of_81 : decode b_MO_of 81 = .ok (.aload_n 0, 1) := by decide +kernel
theorem d_MO_of_82 : decode b_MO_of 82 = .ok (.iload_n 1, 1) := by decide +kernel
theorem d_MO_of_83 : decode b_MO_of 83 = .ok (.iload_n 2, 1) := by decide +kernel
theorem d_MO_of_84 : decode b_MO_of 84 = .ok (.invokevirtual 128, 3) := by decide +kernel
theorem d_MO_of_87 : decode b_MO_of 87 = .ok (.ireturn, 1) := by decide +kernel
set_option maxHeartbeats 4000000 in
set_option maxRecDepth 100000 in
theorem c_MO_ofU (l : Launch) (dC : Nat → ClassId) (dI : Nat → Nat → Nat) (h : Nat) (th : Int32) (fa : Nat) (n0 : Int32) (ga : Nat) (sz : Int32) (ra : Nat) (rz : Int32) (ka : Nat) (wa : Nat) (ct : Int32) (x : Int32) (y : Int32)  : fm_MW l (dC, dI) y_MO_of w_MO_of ({ frames := 0, cells := 0, slots := 0, locals := 0 }) [.ref h, .int (x), .int (y)] [(h, .inr (4, [.int (th), .ref fa, .int (n0), .ref ga, .int (nI (0)), .int (sz), .ref ra, .int (rz), .ref ka, .ref wa, .int (ct)]))] [(h, .inr (4, [.int (nI (1)), .ref fa, .int (n0), .ref ga, .int (nI (0)), .int (sz), .ref ra, .int (rz), .ref ka, .ref wa, .int (ct)]))] [] (some (.int (nI (0)))) := by
  refine Met.ofW (cc := b_MO_of) (maxL := 3) (ret := (some .int)) (by decide) rfl ?_
  intro pg ev s m args below meth cd s₁ BD hml hv
  obtain ⟨rfl, hP, hK, hD0⟩ := hv
  have hx := BD.exec
  have hb := BD.bytes
  have hr := BD.returns
  have hts := atoms_spec (ws := w_MO_of) BD.pre
  have ht : ∀ w ∈ fm_T, w.before _ s = true := fun w h => hts w (List.mem_cons_of_mem _ h)
  have hown : s.vm.findClass R_MO = some m.cls := findClass_of_methodNamed BD.named
  have hlocks := BD.notSynchronized
  have S : CallFix pg m cd b_MO_of 3 s _ w_MO_of R_MO := ⟨hx, hb, hml, hown, hts⟩
  have hD := fm_selfD hD0
  generalize fm_A [(h, .inr (4, [.int (th), .ref fa, .int (n0), .ref ga, .int (nI (0)), .int (sz), .ref ra, .int (rz), .ref ka, .ref wa, .int (ct)]))] = A at hD ⊢
  have hS : va_S A s.heap s.heap [] := va_S.rf
  have hl := lv_entry ([.ref h, .int (x), .int (y)]) (n := 3) (Nat.le_of_ble_eq_true rfl)
  rw [lg_entry_eq]
  generalize (lg_sl ([.ref h, .int (x), .int (y)]) ++ List.replicate (3 - (lg_sl ([.ref h, .int (x), .int (y)])).length) Slot.unset).toArray = ls at hl ⊢
  have hl : lv_has ls 3 [(0, .ref h), (1, .int (x)), (2, .int (y))] := hl
  refine lv_aload_n hx hb d_MO_of_0 rfl (lv_at hl 0 rfl) ?_
  refine lv_aload_n hx hb d_MO_of_1 rfl (lv_at hl 0 rfl) ?_
  refine va_get (D := (dC, dI)) (ci := 4) (v := .int (nI (0))) (C := R_MO) (T := F_MO) (N := 11) hx hb ht i_MO hown hK hP 0 rfl rfl 4 (by decide) (ht _ q_3_117) (fun _ h9 => h9) rfl d_MO_of_2 ?_
  refine lv_if_ne (tgt := 12) hx hb d_MO_of_5 (by decide) (fun c0 => ?_) (fun c0 => ?_)
  · have c_5 : ¬ (0 = 0) := fun z => c0 ((nI_eq (a := 0) (b := 0) (by omega) (by omega)).mpr z)
    exact absurd c_5 (by decide)
  · have c_5 : 0 = 0 := (nI_eq (a := 0) (b := 0) (by omega) (by omega)).mp c0
    refine lv_iconst (v := nI (1)) hx hb d_MO_of_8 (by decide) ?_
    refine lv_goto (tgt := 37) hx hb d_MO_of_9 (by decide) ?_
    refine va_put (D := (dC, dI)) (ci := 4) (v := .int (nI (1))) (ty := .int) (C := R_MO) (T := F_MO) (N := 11) hx hb ht i_MO t_MO t_MO_ok n_MO hown hK hP hD hS 0 rfl rfl 0 (by decide) (ht _ q_3_113) (fun _ h9 => h9) rfl (by decide +kernel) (rfl) (rfl) (Nat.le_of_ble_eq_true rfl) d_MO_of_37 (fun H locs hP hD hS => ?_)
    have hP : va_P (dC, dI) classes [(h, .inr (4, [.int (nI (1)), .ref fa, .int (n0), .ref ga, .int (nI (0)), .int (sz), .ref ra, .int (rz), .ref ka, .ref wa, .int (ct)]))] _ := hP
    have hD : va_D A [(h, .inr (4, [.int (nI (1)), .ref fa, .int (n0), .ref ga, .int (nI (0)), .int (sz), .ref ra, .int (rz), .ref ka, .ref wa, .int (ct)]))] := hD
    refine lv_aload_n hx hb d_MO_of_40 rfl (lv_at hl 0 rfl) ?_
    refine va_get (D := (dC, dI)) (ci := 4) (v := .int (nI (1))) (C := R_MO) (T := F_MO) (N := 11) hx hb ht i_MO hown hK hP 0 rfl rfl 0 (by decide) (ht _ q_3_113) (fun _ h9 => h9) rfl d_MO_of_41 ?_
    refine lv_if_le (tgt := 49) hx hb d_MO_of_44 (by decide) (fun c0 => ?_) (fun c0 => ?_)
    · have c_44 : 1 ≤ 0 := (nI_leI (a := 1) (b := 0) (by omega) (by omega)).mp c0
      exact absurd c_44 (by decide)
    · have c_44 : ¬ (1 ≤ 0) := fun z => c0 ((nI_leI (a := 1) (b := 0) (by omega) (by omega)).mpr z)
      refine lv_iconst (v := nI (0)) hx hb d_MO_of_47 (by decide) ?_
      exact W.iret hx hb hr (fun t ht hW => ⟨congrArg (fun z => Outcome.returned (some (Value.int z))) (rfl), by rw [ht]; exact hP, hS.F ht⟩) hS.2.2 d_MO_of_48
set_option maxHeartbeats 4000000 in
set_option maxRecDepth 100000 in
theorem c_MO_ofN (l : Launch) (dC : Nat → ClassId) (dI : Nat → Nat → Nat) (h : Nat) (th : Int32) (fa : Nat) (n0 : Int32) (ga : Nat) (ra : Nat) (rz : Int32) (ka : Nat) (wa : Nat) (ct : Int32) (s0 : Nat) (cB : ClassId) (g : Nat → Int32) (x : Int32) (y : Int32) (hL : fm_Len (fm_RB g)) (hno : fm_thI (fm_RB g) x = false ∨ y < 0 ∨ nI 5 < y) : fm_MW l (dC, dI) y_MO_of w_MO_of ({ frames := 5, cells := 0, slots := 0, locals := 109 }) [.ref h, .int (x), .int (y)] [(h, .inr (4, [.int (th), .ref fa, .int (n0), .ref ga, .int (nI (1)), .int (nI (s0)), .ref ra, .int (rz), .ref ka, .ref wa, .int (ct)])), (ga, .inl (cB, 8192, .inl (g)))] [(h, .inr (4, [.int (nI (2)), .ref fa, .int (n0), .ref ga, .int (nI (1)), .int (nI (s0)), .ref ra, .int (rz), .ref ka, .ref wa, .int (ct)])), (ga, .inl (cB, 8192, .inl (g)))] [(cB, .byte)] (some (.int (nI (0)))) := by
  refine Met.ofW (cc := b_MO_of) (maxL := 3) (ret := (some .int)) (by decide) rfl ?_
  intro pg ev s m args below meth cd s₁ BD hml hv
  obtain ⟨rfl, hP, hK, hD0⟩ := hv
  have hx := BD.exec
  have hb := BD.bytes
  have hr := BD.returns
  have hts := atoms_spec (ws := w_MO_of) BD.pre
  have ht : ∀ w ∈ fm_T, w.before _ s = true := fun w h => hts w (List.mem_cons_of_mem _ h)
  have hown : s.vm.findClass R_MO = some m.cls := findClass_of_methodNamed BD.named
  have hlocks := BD.notSynchronized
  have S : CallFix pg m cd b_MO_of 3 s _ w_MO_of R_MO := ⟨hx, hb, hml, hown, hts⟩
  have hD := fm_selfD hD0
  generalize fm_A [(h, .inr (4, [.int (th), .ref fa, .int (n0), .ref ga, .int (nI (1)), .int (nI (s0)), .ref ra, .int (rz), .ref ka, .ref wa, .int (ct)])), (ga, .inl (cB, 8192, .inl (g)))] = A at hD ⊢
  have hS : va_S A s.heap s.heap [] := va_S.rf
  have hl := lv_entry ([.ref h, .int (x), .int (y)]) (n := 3) (Nat.le_of_ble_eq_true rfl)
  rw [lg_entry_eq]
  generalize (lg_sl ([.ref h, .int (x), .int (y)]) ++ List.replicate (3 - (lg_sl ([.ref h, .int (x), .int (y)])).length) Slot.unset).toArray = ls at hl ⊢
  have hl : lv_has ls 3 [(0, .ref h), (1, .int (x)), (2, .int (y))] := hl
  obtain ⟨-, hq, h3, h10⟩ := id hL
  refine lv_aload_n hx hb d_MO_of_0 rfl (lv_at hl 0 rfl) ?_
  refine lv_aload_n hx hb d_MO_of_1 rfl (lv_at hl 0 rfl) ?_
  refine va_get (D := (dC, dI)) (ci := 4) (v := .int (nI (1))) (C := R_MO) (T := F_MO) (N := 11) hx hb ht i_MO hown hK hP 0 rfl rfl 4 (by decide) (ht _ q_3_117) (fun _ h9 => h9) rfl d_MO_of_2 ?_
  refine lv_if_ne (tgt := 12) hx hb d_MO_of_5 (by decide) (fun c0 => ?_) (fun c0 => ?_)
  · have c_5 : ¬ (1 = 0) := fun z => c0 ((nI_eq (a := 1) (b := 0) (by omega) (by omega)).mpr z)
    refine lv_aload_n hx hb d_MO_of_12 rfl (lv_at hl 0 rfl) ?_
    refine va_get (D := (dC, dI)) (ci := 4) (v := .ref ga) (C := R_MO) (T := F_MO) (N := 11) hx hb ht i_MO hown hK hP 0 rfl rfl 3 (by decide) (ht _ q_3_116) (fun _ h9 => h9) rfl d_MO_of_13 ?_
    refine lv_iload_n hx hb d_MO_of_16 rfl (lv_at hl 1 rfl) ?_
    refine fm_cs S (c_MO_isThere l dC dI ga cB g x (hL)) rfl rfl k_MO_isThere q_3_194 ⟨Nat.le_of_ble_eq_true rfl, Nat.le_of_ble_eq_true rfl⟩ (hP.sub [1] rfl) (hK.sub [0] rfl) rfl hl.1 rfl (Nat.le_of_ble_eq_true rfl) ⟨Nat.zero_le _, Nat.zero_le _⟩ d_MO_of_17 ?_
    refine lv_if_eq (tgt := 32) hx hb d_MO_of_20 (by decide) (fun c0 => ?_) (fun c0 => ?_)
    · have c_20 : (fm_thI (fm_RB g) x) = false := fm_bI_f c0
      refine lv_iconst (v := nI (2)) hx hb d_MO_of_32 (by decide) ?_
      refine lv_goto (tgt := 37) hx hb d_MO_of_33 (by decide) ?_
      refine va_put (D := (dC, dI)) (ci := 4) (v := .int (nI (2))) (ty := .int) (C := R_MO) (T := F_MO) (N := 11) hx hb ht i_MO t_MO t_MO_ok n_MO hown hK hP hD hS 0 rfl rfl 0 (by decide) (ht _ q_3_113) (fun _ h9 => h9) rfl (by decide +kernel) (rfl) (rfl) (Nat.le_of_ble_eq_true rfl) d_MO_of_37 (fun H locs hP hD hS => ?_)
      have hP : va_P (dC, dI) classes [(h, .inr (4, [.int (nI (2)), .ref fa, .int (n0), .ref ga, .int (nI (1)), .int (nI (s0)), .ref ra, .int (rz), .ref ka, .ref wa, .int (ct)])), (ga, .inl (cB, 8192, .inl (g)))] _ := hP
      have hD : va_D A [(h, .inr (4, [.int (nI (2)), .ref fa, .int (n0), .ref ga, .int (nI (1)), .int (nI (s0)), .ref ra, .int (rz), .ref ka, .ref wa, .int (ct)])), (ga, .inl (cB, 8192, .inl (g)))] := hD
      refine lv_aload_n hx hb d_MO_of_40 rfl (lv_at hl 0 rfl) ?_
      refine va_get (D := (dC, dI)) (ci := 4) (v := .int (nI (2))) (C := R_MO) (T := F_MO) (N := 11) hx hb ht i_MO hown hK hP 0 rfl rfl 0 (by decide) (ht _ q_3_113) (fun _ h9 => h9) rfl d_MO_of_41 ?_
      refine lv_if_le (tgt := 49) hx hb d_MO_of_44 (by decide) (fun c0 => ?_) (fun c0 => ?_)
      · have c_44 : 2 ≤ 0 := (nI_leI (a := 2) (b := 0) (by omega) (by omega)).mp c0
        exact absurd c_44 (by decide)
      · have c_44 : ¬ (2 ≤ 0) := fun z => c0 ((nI_leI (a := 2) (b := 0) (by omega) (by omega)).mpr z)
        refine lv_iconst (v := nI (0)) hx hb d_MO_of_47 (by decide) ?_
        exact W.iret hx hb hr (fun t ht hW => ⟨congrArg (fun z => Outcome.returned (some (Value.int z))) (rfl), by rw [ht]; exact hP, hS.F ht⟩) hS.2.2 d_MO_of_48
    · have c_20 : (fm_thI (fm_RB g) x) = true := fm_bI_t c0
      refine lv_iload_n hx hb d_MO_of_23 rfl (lv_at hl 2 rfl) ?_
      refine lv_if_lt (tgt := 32) hx hb d_MO_of_24 (by decide) (fun c0 => ?_) (fun c0 => ?_)
      · have c_24 := c0
        refine lv_iconst (v := nI (2)) hx hb d_MO_of_32 (by decide) ?_
        refine lv_goto (tgt := 37) hx hb d_MO_of_33 (by decide) ?_
        refine va_put (D := (dC, dI)) (ci := 4) (v := .int (nI (2))) (ty := .int) (C := R_MO) (T := F_MO) (N := 11) hx hb ht i_MO t_MO t_MO_ok n_MO hown hK hP hD hS 0 rfl rfl 0 (by decide) (ht _ q_3_113) (fun _ h9 => h9) rfl (by decide +kernel) (rfl) (rfl) (Nat.le_of_ble_eq_true rfl) d_MO_of_37 (fun H locs hP hD hS => ?_)
        have hP : va_P (dC, dI) classes [(h, .inr (4, [.int (nI (2)), .ref fa, .int (n0), .ref ga, .int (nI (1)), .int (nI (s0)), .ref ra, .int (rz), .ref ka, .ref wa, .int (ct)])), (ga, .inl (cB, 8192, .inl (g)))] _ := hP
        have hD : va_D A [(h, .inr (4, [.int (nI (2)), .ref fa, .int (n0), .ref ga, .int (nI (1)), .int (nI (s0)), .ref ra, .int (rz), .ref ka, .ref wa, .int (ct)])), (ga, .inl (cB, 8192, .inl (g)))] := hD
        refine lv_aload_n hx hb d_MO_of_40 rfl (lv_at hl 0 rfl) ?_
        refine va_get (D := (dC, dI)) (ci := 4) (v := .int (nI (2))) (C := R_MO) (T := F_MO) (N := 11) hx hb ht i_MO hown hK hP 0 rfl rfl 0 (by decide) (ht _ q_3_113) (fun _ h9 => h9) rfl d_MO_of_41 ?_
        refine lv_if_le (tgt := 49) hx hb d_MO_of_44 (by decide) (fun c0 => ?_) (fun c0 => ?_)
        · have c_44 : 2 ≤ 0 := (nI_leI (a := 2) (b := 0) (by omega) (by omega)).mp c0
          exact absurd c_44 (by decide)
        · have c_44 : ¬ (2 ≤ 0) := fun z => c0 ((nI_leI (a := 2) (b := 0) (by omega) (by omega)).mpr z)
          refine lv_iconst (v := nI (0)) hx hb d_MO_of_47 (by decide) ?_
          exact W.iret hx hb hr (fun t ht hW => ⟨congrArg (fun z => Outcome.returned (some (Value.int z))) (rfl), by rw [ht]; exact hP, hS.F ht⟩) hS.2.2 d_MO_of_48
      · have c_24 := c0
        refine lv_iload_n hx hb d_MO_of_27 rfl (lv_at hl 2 rfl) ?_
        refine lv_iconst (v := nI (5)) hx hb d_MO_of_28 (by decide) ?_
        refine lv_icmp_le (tgt := 36) hx hb d_MO_of_29 (by decide) (fun c0 => ?_) (fun c0 => ?_)
        · have c_29 := c0
          exact absurd c_29 (Int32.not_le.mpr ((hno.resolve_left (by rw [c_20]; decide)).resolve_left c_24))
        · have c_29 := c0
          refine lv_iconst (v := nI (2)) hx hb d_MO_of_32 (by decide) ?_
          refine lv_goto (tgt := 37) hx hb d_MO_of_33 (by decide) ?_
          refine va_put (D := (dC, dI)) (ci := 4) (v := .int (nI (2))) (ty := .int) (C := R_MO) (T := F_MO) (N := 11) hx hb ht i_MO t_MO t_MO_ok n_MO hown hK hP hD hS 0 rfl rfl 0 (by decide) (ht _ q_3_113) (fun _ h9 => h9) rfl (by decide +kernel) (rfl) (rfl) (Nat.le_of_ble_eq_true rfl) d_MO_of_37 (fun H locs hP hD hS => ?_)
          have hP : va_P (dC, dI) classes [(h, .inr (4, [.int (nI (2)), .ref fa, .int (n0), .ref ga, .int (nI (1)), .int (nI (s0)), .ref ra, .int (rz), .ref ka, .ref wa, .int (ct)])), (ga, .inl (cB, 8192, .inl (g)))] _ := hP
          have hD : va_D A [(h, .inr (4, [.int (nI (2)), .ref fa, .int (n0), .ref ga, .int (nI (1)), .int (nI (s0)), .ref ra, .int (rz), .ref ka, .ref wa, .int (ct)])), (ga, .inl (cB, 8192, .inl (g)))] := hD
          refine lv_aload_n hx hb d_MO_of_40 rfl (lv_at hl 0 rfl) ?_
          refine va_get (D := (dC, dI)) (ci := 4) (v := .int (nI (2))) (C := R_MO) (T := F_MO) (N := 11) hx hb ht i_MO hown hK hP 0 rfl rfl 0 (by decide) (ht _ q_3_113) (fun _ h9 => h9) rfl d_MO_of_41 ?_
          refine lv_if_le (tgt := 49) hx hb d_MO_of_44 (by decide) (fun c0 => ?_) (fun c0 => ?_)
          · have c_44 : 2 ≤ 0 := (nI_leI (a := 2) (b := 0) (by omega) (by omega)).mp c0
            exact absurd c_44 (by decide)
          · have c_44 : ¬ (2 ≤ 0) := fun z => c0 ((nI_leI (a := 2) (b := 0) (by omega) (by omega)).mpr z)
            refine lv_iconst (v := nI (0)) hx hb d_MO_of_47 (by decide) ?_
            exact W.iret hx hb hr (fun t ht hW => ⟨congrArg (fun z => Outcome.returned (some (Value.int z))) (rfl), by rw [ht]; exact hP, hS.F ht⟩) hS.2.2 d_MO_of_48
  · have c_5 : 1 = 0 := (nI_eq (a := 1) (b := 0) (by omega) (by omega)).mp c0
    exact absurd c_5 (by decide)
set_option maxHeartbeats 4000000 in
set_option maxRecDepth 100000 in
theorem c_MO_ofY (l : Launch) (dC : Nat → ClassId) (dI : Nat → Nat → Nat) (h : Nat) (th : Int32) (fa : Nat) (n0 : Int32) (ga : Nat) (ra : Nat) (rz : Int32) (ka : Nat) (wa : Nat) (ct : Int32) (s0 : Nat) (cB : ClassId) (g : Nat → Int32) (c : Nat) (v : Nat) (hL : fm_Len (fm_RB g)) (hz : fm_all (fm_WD (fm_RB g) 1) (fm_size1 (fm_RB g)) = true) (hs : s0 < 134217728) (hth : fm_th (fm_RB g) c = true) (hc31 : c < 2 ^ 31) (hv : v < 6) : fm_MW l (dC, dI) y_MO_of w_MO_of ({ frames := 6, cells := 0, slots := 0, locals := 141 }) [.ref h, .int (nI (c)), .int (nI (v))] [(h, .inr (4, [.int (th), .ref fa, .int (n0), .ref ga, .int (nI (1)), .int (nI (s0)), .ref ra, .int (rz), .ref ka, .ref wa, .int (ct)])), (ga, .inl (cB, 8192, .inl (g)))] [(h, .inr (4, [.int (nI (0)), .ref fa, .int (n0), .ref ga, .int (nI (1)), .int (nI (s0)), .ref ra, .int (rz), .ref ka, .ref wa, .int (ct)])), (ga, .inl (cB, 8192, .inl (g)))] [(cB, .byte)] (some (.int (fm_of (fm_RB g) s0 c v))) := by
  refine Met.ofW (cc := b_MO_of) (maxL := 3) (ret := (some .int)) (by decide) rfl ?_
  intro pg ev s m args below meth cd s₁ BD hml hv
  obtain ⟨rfl, hP, hK, hD0⟩ := hv
  have hx := BD.exec
  have hb := BD.bytes
  have hr := BD.returns
  have hts := atoms_spec (ws := w_MO_of) BD.pre
  have ht : ∀ w ∈ fm_T, w.before _ s = true := fun w h => hts w (List.mem_cons_of_mem _ h)
  have hown : s.vm.findClass R_MO = some m.cls := findClass_of_methodNamed BD.named
  have hlocks := BD.notSynchronized
  have S : CallFix pg m cd b_MO_of 3 s _ w_MO_of R_MO := ⟨hx, hb, hml, hown, hts⟩
  have hD := fm_selfD hD0
  generalize fm_A [(h, .inr (4, [.int (th), .ref fa, .int (n0), .ref ga, .int (nI (1)), .int (nI (s0)), .ref ra, .int (rz), .ref ka, .ref wa, .int (ct)])), (ga, .inl (cB, 8192, .inl (g)))] = A at hD ⊢
  have hS : va_S A s.heap s.heap [] := va_S.rf
  have hl := lv_entry ([.ref h, .int (nI (c)), .int (nI (v))]) (n := 3) (Nat.le_of_ble_eq_true rfl)
  rw [lg_entry_eq]
  generalize (lg_sl ([.ref h, .int (nI (c)), .int (nI (v))]) ++ List.replicate (3 - (lg_sl ([.ref h, .int (nI (c)), .int (nI (v))])).length) Slot.unset).toArray = ls at hl ⊢
  have hl : lv_has ls 3 [(0, .ref h), (1, .int (nI (c))), (2, .int (nI (v)))] := hl
  obtain ⟨-, hq, h3, h10⟩ := id hL
  obtain ⟨h1, h2, -⟩ := fm_th_in hth
  refine lv_aload_n hx hb d_MO_of_0 rfl (lv_at hl 0 rfl) ?_
  refine lv_aload_n hx hb d_MO_of_1 rfl (lv_at hl 0 rfl) ?_
  refine va_get (D := (dC, dI)) (ci := 4) (v := .int (nI (1))) (C := R_MO) (T := F_MO) (N := 11) hx hb ht i_MO hown hK hP 0 rfl rfl 4 (by decide) (ht _ q_3_117) (fun _ h9 => h9) rfl d_MO_of_2 ?_
  refine lv_if_ne (tgt := 12) hx hb d_MO_of_5 (by decide) (fun c0 => ?_) (fun c0 => ?_)
  · have c_5 : ¬ (1 = 0) := fun z => c0 ((nI_eq (a := 1) (b := 0) (by omega) (by omega)).mpr z)
    refine lv_aload_n hx hb d_MO_of_12 rfl (lv_at hl 0 rfl) ?_
    refine va_get (D := (dC, dI)) (ci := 4) (v := .ref ga) (C := R_MO) (T := F_MO) (N := 11) hx hb ht i_MO hown hK hP 0 rfl rfl 3 (by decide) (ht _ q_3_116) (fun _ h9 => h9) rfl d_MO_of_13 ?_
    refine lv_iload_n hx hb d_MO_of_16 rfl (lv_at hl 1 rfl) ?_
    refine fm_cs S (c_MO_isThereN l dC dI ga cB g c (by omega) (hL)) rfl rfl k_MO_isThere q_3_194 ⟨Nat.le_of_ble_eq_true rfl, Nat.le_of_ble_eq_true rfl⟩ (hP.sub [1] rfl) (hK.sub [0] rfl) rfl hl.1 rfl (Nat.le_of_ble_eq_true rfl) ⟨Nat.zero_le _, Nat.zero_le _⟩ d_MO_of_17 ?_
    refine lv_if_eq (tgt := 32) hx hb d_MO_of_20 (by decide) (fun c0 => ?_) (fun c0 => ?_)
    · have c_20 : (fm_th (fm_RB g) c) = false := fm_bI_f c0
      exact absurd c_20 (by rw [hth]; decide)
    · have c_20 : (fm_th (fm_RB g) c) = true := fm_bI_t c0
      refine lv_iload_n hx hb d_MO_of_23 rfl (lv_at hl 2 rfl) ?_
      refine lv_if_lt (tgt := 32) hx hb d_MO_of_24 (by decide) (fun c0 => ?_) (fun c0 => ?_)
      · have c_24 : v < 0 := (nI_ltI (a := v) (b := 0) (by omega) (by omega)).mp c0
        exact absurd c_24 (by omega)
      · have c_24 : ¬ (v < 0) := fun z => c0 ((nI_ltI (a := v) (b := 0) (by omega) (by omega)).mpr z)
        refine lv_iload_n hx hb d_MO_of_27 rfl (lv_at hl 2 rfl) ?_
        refine lv_iconst (v := nI (5)) hx hb d_MO_of_28 (by decide) ?_
        refine lv_icmp_le (tgt := 36) hx hb d_MO_of_29 (by decide) (fun c0 => ?_) (fun c0 => ?_)
        · have c_29 : v ≤ 5 := (nI_leI (a := v) (b := 5) (by omega) (by omega)).mp c0
          refine lv_iconst (v := nI (0)) hx hb d_MO_of_36 (by decide) ?_
          refine va_put (D := (dC, dI)) (ci := 4) (v := .int (nI (0))) (ty := .int) (C := R_MO) (T := F_MO) (N := 11) hx hb ht i_MO t_MO t_MO_ok n_MO hown hK hP hD hS 0 rfl rfl 0 (by decide) (ht _ q_3_113) (fun _ h9 => h9) rfl (by decide +kernel) (rfl) (rfl) (Nat.le_of_ble_eq_true rfl) d_MO_of_37 (fun H locs hP hD hS => ?_)
          have hP : va_P (dC, dI) classes [(h, .inr (4, [.int (nI (0)), .ref fa, .int (n0), .ref ga, .int (nI (1)), .int (nI (s0)), .ref ra, .int (rz), .ref ka, .ref wa, .int (ct)])), (ga, .inl (cB, 8192, .inl (g)))] _ := hP
          have hD : va_D A [(h, .inr (4, [.int (nI (0)), .ref fa, .int (n0), .ref ga, .int (nI (1)), .int (nI (s0)), .ref ra, .int (rz), .ref ka, .ref wa, .int (ct)])), (ga, .inl (cB, 8192, .inl (g)))] := hD
          refine lv_aload_n hx hb d_MO_of_40 rfl (lv_at hl 0 rfl) ?_
          refine va_get (D := (dC, dI)) (ci := 4) (v := .int (nI (0))) (C := R_MO) (T := F_MO) (N := 11) hx hb ht i_MO hown hK hP 0 rfl rfl 0 (by decide) (ht _ q_3_113) (fun _ h9 => h9) rfl d_MO_of_41 ?_
          refine lv_if_le (tgt := 49) hx hb d_MO_of_44 (by decide) (fun c0 => ?_) (fun c0 => ?_)
          · have c_44 : 0 ≤ 0 := (nI_leI (a := 0) (b := 0) (by omega) (by omega)).mp c0
            refine lv_iload_n hx hb d_MO_of_49 rfl (lv_at hl 2 rfl) ?_
            refine lv_iconst (v := nI (4)) hx hb d_MO_of_50 (by decide) ?_
            refine lv_icmp_ne (tgt := 65) hx hb d_MO_of_51 (by decide) (fun c0 => ?_) (fun c0 => ?_)
            · have c_51 : ¬ (v = 4) := fun z => c0 ((nI_eq (a := v) (b := 4) (by omega) (by omega)).mpr z)
              refine lv_iload_n hx hb d_MO_of_65 rfl (lv_at hl 2 rfl) ?_
              refine lv_iconst (v := nI (5)) hx hb d_MO_of_66 (by decide) ?_
              refine lv_icmp_ne (tgt := 81) hx hb d_MO_of_67 (by decide) (fun c0 => ?_) (fun c0 => ?_)
              · have c_67 : ¬ (v = 5) := fun z => c0 ((nI_eq (a := v) (b := 5) (by omega) (by omega)).mpr z)
                refine lv_aload_n hx hb d_MO_of_81 rfl (lv_at hl 0 rfl) ?_
                refine lv_iload_n hx hb d_MO_of_82 rfl (lv_at hl 1 rfl) ?_
                refine lv_iload_n hx hb d_MO_of_83 rfl (lv_at hl 2 rfl) ?_
                refine fm_cv S (c_MO_sizeOf l dC dI h (nI (0)) fa n0 ga (nI (1)) s0 ra rz ka wa ct cB g c v (hL) (h1) (h2) (hz) (hs) (by omega)) rfl rfl k_MO_sizeOf q_4_2 ⟨Nat.le_of_ble_eq_true rfl, Nat.le_of_ble_eq_true rfl⟩ (hP.sub [0, 1] rfl) (hK.sub [0] rfl) 0 rfl rfl rfl hl.1 rfl (Nat.le_of_ble_eq_true rfl) ⟨Nat.zero_le _, Nat.zero_le _⟩ d_MO_of_84 ?_
                exact W.iret hx hb hr (fun t ht hW => ⟨congrArg (fun z => Outcome.returned (some (Value.int z))) (by first | (rw [fm_of, if_pos c_51]; done) | (rw [fm_of, if_neg c_51, if_pos c_67]; done) | (rw [fm_of, if_neg c_51, if_neg c_67]; done)), by rw [ht]; exact hP, hS.F ht⟩) hS.2.2 d_MO_of_87
              · have c_67 : v = 5 := (nI_eq (a := v) (b := 5) (by omega) (by omega)).mp c0
                refine lv_aload_n hx hb d_MO_of_70 rfl (lv_at hl 0 rfl) ?_
                refine va_get (D := (dC, dI)) (ci := 4) (v := .ref ga) (C := R_MO) (T := F_MO) (N := 11) hx hb ht i_MO hown hK hP 0 rfl rfl 3 (by decide) (ht _ q_3_116) (fun _ h9 => h9) rfl d_MO_of_71 ?_
                refine lv_iload_n hx hb d_MO_of_74 rfl (lv_at hl 1 rfl) ?_
                refine fm_cs S (c_MO_rest l dC dI ga cB g c (hL) (h1) (h2)) rfl rfl k_MO_rest q_3_200 ⟨Nat.le_of_ble_eq_true rfl, Nat.le_of_ble_eq_true rfl⟩ (hP.sub [1] rfl) (hK.sub [0] rfl) rfl hl.1 rfl (Nat.le_of_ble_eq_true rfl) ⟨Nat.zero_le _, Nat.zero_le _⟩ d_MO_of_75 ?_
                have f0_75 := fm_rest_lt (fm_RB_lt g) c
                refine lv_goto (tgt := 87) hx hb d_MO_of_78 (by decide) ?_
                exact W.iret hx hb hr (fun t ht hW => ⟨congrArg (fun z => Outcome.returned (some (Value.int z))) (by first | (rw [fm_of, if_pos c_51]; done) | (rw [fm_of, if_neg c_51, if_pos c_67]; done) | (rw [fm_of, if_neg c_51, if_neg c_67]; done)), by rw [ht]; exact hP, hS.F ht⟩) hS.2.2 d_MO_of_87
            · have c_51 : v = 4 := (nI_eq (a := v) (b := 4) (by omega) (by omega)).mp c0
              refine lv_aload_n hx hb d_MO_of_54 rfl (lv_at hl 0 rfl) ?_
              refine va_get (D := (dC, dI)) (ci := 4) (v := .ref ga) (C := R_MO) (T := F_MO) (N := 11) hx hb ht i_MO hown hK hP 0 rfl rfl 3 (by decide) (ht _ q_3_116) (fun _ h9 => h9) rfl d_MO_of_55 ?_
              refine lv_iload_n hx hb d_MO_of_58 rfl (lv_at hl 1 rfl) ?_
              refine fm_cs S (c_MO_tag l dC dI ga cB g c (hL) (h1) (h2)) rfl rfl k_MO_tag q_3_197 ⟨Nat.le_of_ble_eq_true rfl, Nat.le_of_ble_eq_true rfl⟩ (hP.sub [1] rfl) (hK.sub [0] rfl) rfl hl.1 rfl (Nat.le_of_ble_eq_true rfl) ⟨Nat.zero_le _, Nat.zero_le _⟩ d_MO_of_59 ?_
              have f0_59 := fm_tag_lt (fm_RB g) c
              refine lv_goto (tgt := 87) hx hb d_MO_of_62 (by decide) ?_
              exact W.iret hx hb hr (fun t ht hW => ⟨congrArg (fun z => Outcome.returned (some (Value.int z))) (by first | (rw [fm_of, if_pos c_51]; done) | (rw [fm_of, if_neg c_51, if_pos c_67]; done) | (rw [fm_of, if_neg c_51, if_neg c_67]; done)), by rw [ht]; exact hP, hS.F ht⟩) hS.2.2 d_MO_of_87
          · have c_44 : ¬ (0 ≤ 0) := fun z => c0 ((nI_leI (a := 0) (b := 0) (by omega) (by omega)).mpr z)
            exact absurd c_44 (by decide)
        · have c_29 : ¬ (v ≤ 5) := fun z => c0 ((nI_leI (a := v) (b := 5) (by omega) (by omega)).mpr z)
          exact absurd c_29 (by omega)
  · have c_5 : 1 = 0 := (nI_eq (a := 1) (b := 0) (by omega) (by omega)).mp c0
    exact absurd c_5 (by decide)
theorem d_MO_part_0 : decode b_MO_part 0 = .ok (.aload_n 0, 1) := by decide +kernel
theorem d_MO_part_1 : decode b_MO_part 1 = .ok (.aload_n 0, 1) := by decide +kernel
theorem d_MO_part_2 : decode b_MO_part 2 = .ok (.getfield 103, 3) := by decide +kernel
theorem d_MO_part_5 : decode b_MO_part 5 = .ok (.ifCond .ne 7, 3) := by decide +kernel
theorem d_MO_part_8 : decode b_MO_part 8 = .ok (.iconst 1, 1) := by decide +kernel
theorem d_MO_part_9 : decode b_MO_part 9 = .ok (.goto 40, 3) := by decide +kernel
theorem d_MO_part_12 : decode b_MO_part 12 = .ok (.aload_n 0, 1) := by decide +kernel
theorem d_MO_part_13 : decode b_MO_part 13 = .ok (.getfield 13, 3) := by decide +kernel
theorem d_MO_part_16 : decode b_MO_part 16 = .ok (.iload_n 1, 1) := by decide +kernel
theorem d_MO_part_17 : decode b_MO_part 17 = .ok (.invokestatic 53, 3) := by decide +kernel
theorem d_MO_part_20 : decode b_MO_part 20 = .ok (.ifCond .eq 24, 3) := by decide +kernel
theorem d_MO_part_23 : decode b_MO_part 23 = .ok (.aload_n 0, 1) := by decide +kernel
theorem d_MO_part_24 : decode b_MO_part 24 = .ok (.getfield 13, 3) := by decide +kernel
theorem d_MO_part_27 : decode b_MO_part 27 = .ok (.iload_n 1, 1) := by decide +kernel
theorem d_MO_part_28 : decode b_MO_part 28 = .ok (.invokestatic 57, 3) := by decide +kernel
theorem d_MO_part_31 : decode b_MO_part 31 = .ok (.iconst 3, 1) := by decide +kernel
theorem d_MO_part_32 : decode b_MO_part 32 = .ok (.if_icmp .ne 12, 3) := by decide +kernel
theorem d_MO_part_35 : decode b_MO_part 35 = .ok (.iload_n 2, 1) := by decide +kernel
theorem d_MO_part_36 : decode b_MO_part 36 = .ok (.ifCond .lt 8, 3) := by decide +kernel
theorem d_MO_part_39 : decode b_MO_part 39 = .ok (.iload_n 2, 1) := by decide +kernel
theorem d_MO_part_40 : decode b_MO_part 40 = .ok (.iconst 3, 1) := by decide +kernel
theorem d_MO_part_41 : decode b_MO_part 41 = .ok (.if_icmp .le 7, 3) := by decide +kernel
theorem d_MO_part_44 : decode b_MO_part 44 = .ok (.iconst 2, 1) := by decide +kernel
theorem d_MO_part_45 : decode b_MO_part 45 = .ok (.goto 4, 3) := by decide +kernel
theorem d_MO_part_48 : decode b_MO_part 48 = .ok (.iconst 0, 1) := by decide +kernel
theorem d_MO_part_49 : decode b_MO_part 49 = .ok (.putfield 26, 3) := by decide +kernel
theorem d_MO_part_52 : decode b_MO_part 52 = .ok (.aload_n 0, 1) := by decide +kernel
theorem d_MO_part_53 : decode b_MO_part 53 = .ok (.getfield 26, 3) := by decide +kernel
theorem d_MO_part_56 : decode b_MO_part 56 = .ok (.ifCond .le 7, 3) := by decide +kernel
theorem d_MO_part_59 : decode b_MO_part 59 = .ok (.iconst 0, 1) := by decide +kernel
theorem d_MO_part_60 : decode b_MO_part 60 = .ok (.goto 21, 3) := by decide +kernel
theorem d_MO_part_63 : decode b_MO_part 63 = .ok (.aload_n 0, 1) := by decide +kernel
theorem d_MO_part_64 : decode b_MO_part 64 = .ok (.getfield 13, 3) := by decide +kernel
theorem d_MO_part_67 : decode b_MO_part 67 = .ok (.bipush 8, 2) := by decide +kernel
theorem d_MO_part_69 : decode b_MO_part 69 = .ok (.aload_n 0, 1) := by decide +kernel
theorem d_MO_part_70 : decode b_MO_part 70 = .ok (.getfield 13, 3) := by decide +kernel
theorem d_MO_part_73 : decode b_MO_part 73 = .ok (.iload_n 1, 1) := by decide +kernel
theorem d_MO_part_74 : decode b_MO_part 74 = .ok (.invokestatic 50, 3) := by decide +kernel
theorem d_MO_part_77 : decode b_MO_part 77 = .ok (.iload_n 2, 1) := by decide +kernel
theorem d_MO_part_78 : decode b_MO_part 78 = .ok (.invokestatic 43, 3) := by decide +kernel
theorem d_MO_part_81 : decode b_MO_part 81 = .ok (.ireturn, 1) := by decide +kernel
set_option maxHeartbeats 4000000 in
set_option maxRecDepth 100000 in
theorem c_MO_partU (l : Launch) (dC : Nat → ClassId) (dI : Nat → Nat → Nat) (h : Nat) (th : Int32) (fa : Nat) (n0 : Int32) (ga : Nat) (sz : Int32) (ra : Nat) (rz : Int32) (ka : Nat) (wa : Nat) (ct : Int32) (x : Int32) (y : Int32)  : fm_MW l (dC, dI) y_MO_part w_MO_part ({ frames := 0, cells := 0, slots := 0, locals := 0 }) [.ref h, .int (x), .int (y)] [(h, .inr (4, [.int (th), .ref fa, .int (n0), .ref ga, .int (nI (0)), .int (sz), .ref ra, .int (rz), .ref ka, .ref wa, .int (ct)]))] [(h, .inr (4, [.int (nI (1)), .ref fa, .int (n0), .ref ga, .int (nI (0)), .int (sz), .ref ra, .int (rz), .ref ka, .ref wa, .int (ct)]))] [] (some (.int (nI (0)))) := by
  refine Met.ofW (cc := b_MO_part) (maxL := 3) (ret := (some .int)) (by decide) rfl ?_
  intro pg ev s m args below meth cd s₁ BD hml hv
  obtain ⟨rfl, hP, hK, hD0⟩ := hv
  have hx := BD.exec
  have hb := BD.bytes
  have hr := BD.returns
  have hts := atoms_spec (ws := w_MO_part) BD.pre
  have ht : ∀ w ∈ fm_T, w.before _ s = true := fun w h => hts w (List.mem_cons_of_mem _ h)
  have hown : s.vm.findClass R_MO = some m.cls := findClass_of_methodNamed BD.named
  have hlocks := BD.notSynchronized
  have S : CallFix pg m cd b_MO_part 3 s _ w_MO_part R_MO := ⟨hx, hb, hml, hown, hts⟩
  have hD := fm_selfD hD0
  generalize fm_A [(h, .inr (4, [.int (th), .ref fa, .int (n0), .ref ga, .int (nI (0)), .int (sz), .ref ra, .int (rz), .ref ka, .ref wa, .int (ct)]))] = A at hD ⊢
  have hS : va_S A s.heap s.heap [] := va_S.rf
  have hl := lv_entry ([.ref h, .int (x), .int (y)]) (n := 3) (Nat.le_of_ble_eq_true rfl)
  rw [lg_entry_eq]
  generalize (lg_sl ([.ref h, .int (x), .int (y)]) ++ List.replicate (3 - (lg_sl ([.ref h, .int (x), .int (y)])).length) Slot.unset).toArray = ls at hl ⊢
  have hl : lv_has ls 3 [(0, .ref h), (1, .int (x)), (2, .int (y))] := hl
  refine lv_aload_n hx hb d_MO_part_0 rfl (lv_at hl 0 rfl) ?_
  refine lv_aload_n hx hb d_MO_part_1 rfl (lv_at hl 0 rfl) ?_
  refine va_get (D := (dC, dI)) (ci := 4) (v := .int (nI (0))) (C := R_MO) (T := F_MO) (N := 11) hx hb ht i_MO hown hK hP 0 rfl rfl 4 (by decide) (ht _ q_3_117) (fun _ h9 => h9) rfl d_MO_part_2 ?_
  refine lv_if_ne (tgt := 12) hx hb d_MO_part_5 (by decide) (fun c0 => ?_) (fun c0 => ?_)
  · have c_5 : ¬ (0 = 0) := fun z => c0 ((nI_eq (a := 0) (b := 0) (by omega) (by omega)).mpr z)
    exact absurd c_5 (by decide)
  · have c_5 : 0 = 0 := (nI_eq (a := 0) (b := 0) (by omega) (by omega)).mp c0
    refine lv_iconst (v := nI (1)) hx hb d_MO_part_8 (by decide) ?_
    refine lv_goto (tgt := 49) hx hb d_MO_part_9 (by decide) ?_
    refine va_put (D := (dC, dI)) (ci := 4) (v := .int (nI (1))) (ty := .int) (C := R_MO) (T := F_MO) (N := 11) hx hb ht i_MO t_MO t_MO_ok n_MO hown hK hP hD hS 0 rfl rfl 0 (by decide) (ht _ q_3_113) (fun _ h9 => h9) rfl (by decide +kernel) (rfl) (rfl) (Nat.le_of_ble_eq_true rfl) d_MO_part_49 (fun H locs hP hD hS => ?_)
    have hP : va_P (dC, dI) classes [(h, .inr (4, [.int (nI (1)), .ref fa, .int (n0), .ref ga, .int (nI (0)), .int (sz), .ref ra, .int (rz), .ref ka, .ref wa, .int (ct)]))] _ := hP
    have hD : va_D A [(h, .inr (4, [.int (nI (1)), .ref fa, .int (n0), .ref ga, .int (nI (0)), .int (sz), .ref ra, .int (rz), .ref ka, .ref wa, .int (ct)]))] := hD
    refine lv_aload_n hx hb d_MO_part_52 rfl (lv_at hl 0 rfl) ?_
    refine va_get (D := (dC, dI)) (ci := 4) (v := .int (nI (1))) (C := R_MO) (T := F_MO) (N := 11) hx hb ht i_MO hown hK hP 0 rfl rfl 0 (by decide) (ht _ q_3_113) (fun _ h9 => h9) rfl d_MO_part_53 ?_
    refine lv_if_le (tgt := 63) hx hb d_MO_part_56 (by decide) (fun c0 => ?_) (fun c0 => ?_)
    · have c_56 : 1 ≤ 0 := (nI_leI (a := 1) (b := 0) (by omega) (by omega)).mp c0
      exact absurd c_56 (by decide)
    · have c_56 : ¬ (1 ≤ 0) := fun z => c0 ((nI_leI (a := 1) (b := 0) (by omega) (by omega)).mpr z)
      refine lv_iconst (v := nI (0)) hx hb d_MO_part_59 (by decide) ?_
      refine lv_goto (tgt := 81) hx hb d_MO_part_60 (by decide) ?_
      exact W.iret hx hb hr (fun t ht hW => ⟨congrArg (fun z => Outcome.returned (some (Value.int z))) (rfl), by rw [ht]; exact hP, hS.F ht⟩) hS.2.2 d_MO_part_81
set_option maxHeartbeats 4000000 in
set_option maxRecDepth 100000 in
theorem c_MO_partN (l : Launch) (dC : Nat → ClassId) (dI : Nat → Nat → Nat) (h : Nat) (th : Int32) (fa : Nat) (n0 : Int32) (ga : Nat) (ra : Nat) (rz : Int32) (ka : Nat) (wa : Nat) (ct : Int32) (s0 : Nat) (cB : ClassId) (g : Nat → Int32) (x : Int32) (y : Int32) (hL : fm_Len (fm_RB g)) (hno : ∀ c : Nat, x = nI c → fm_th (fm_RB g) c = true → fm_tag (fm_RB g) c ≠ 3 ∨ y < 0 ∨ nI 3 < y) : fm_MW l (dC, dI) y_MO_part w_MO_part ({ frames := 5, cells := 0, slots := 0, locals := 109 }) [.ref h, .int (x), .int (y)] [(h, .inr (4, [.int (th), .ref fa, .int (n0), .ref ga, .int (nI (1)), .int (nI (s0)), .ref ra, .int (rz), .ref ka, .ref wa, .int (ct)])), (ga, .inl (cB, 8192, .inl (g)))] [(h, .inr (4, [.int (nI (2)), .ref fa, .int (n0), .ref ga, .int (nI (1)), .int (nI (s0)), .ref ra, .int (rz), .ref ka, .ref wa, .int (ct)])), (ga, .inl (cB, 8192, .inl (g)))] [(cB, .byte)] (some (.int (nI (0)))) := by
  refine Met.ofW (cc := b_MO_part) (maxL := 3) (ret := (some .int)) (by decide) rfl ?_
  intro pg ev s m args below meth cd s₁ BD hml hv
  obtain ⟨rfl, hP, hK, hD0⟩ := hv
  have hx := BD.exec
  have hb := BD.bytes
  have hr := BD.returns
  have hts := atoms_spec (ws := w_MO_part) BD.pre
  have ht : ∀ w ∈ fm_T, w.before _ s = true := fun w h => hts w (List.mem_cons_of_mem _ h)
  have hown : s.vm.findClass R_MO = some m.cls := findClass_of_methodNamed BD.named
  have hlocks := BD.notSynchronized
  have S : CallFix pg m cd b_MO_part 3 s _ w_MO_part R_MO := ⟨hx, hb, hml, hown, hts⟩
  have hD := fm_selfD hD0
  generalize fm_A [(h, .inr (4, [.int (th), .ref fa, .int (n0), .ref ga, .int (nI (1)), .int (nI (s0)), .ref ra, .int (rz), .ref ka, .ref wa, .int (ct)])), (ga, .inl (cB, 8192, .inl (g)))] = A at hD ⊢
  have hS : va_S A s.heap s.heap [] := va_S.rf
  have hl := lv_entry ([.ref h, .int (x), .int (y)]) (n := 3) (Nat.le_of_ble_eq_true rfl)
  rw [lg_entry_eq]
  generalize (lg_sl ([.ref h, .int (x), .int (y)]) ++ List.replicate (3 - (lg_sl ([.ref h, .int (x), .int (y)])).length) Slot.unset).toArray = ls at hl ⊢
  have hl : lv_has ls 3 [(0, .ref h), (1, .int (x)), (2, .int (y))] := hl
  obtain ⟨-, hq, h3, h10⟩ := id hL
  refine lv_aload_n hx hb d_MO_part_0 rfl (lv_at hl 0 rfl) ?_
  refine lv_aload_n hx hb d_MO_part_1 rfl (lv_at hl 0 rfl) ?_
  refine va_get (D := (dC, dI)) (ci := 4) (v := .int (nI (1))) (C := R_MO) (T := F_MO) (N := 11) hx hb ht i_MO hown hK hP 0 rfl rfl 4 (by decide) (ht _ q_3_117) (fun _ h9 => h9) rfl d_MO_part_2 ?_
  refine lv_if_ne (tgt := 12) hx hb d_MO_part_5 (by decide) (fun c0 => ?_) (fun c0 => ?_)
  · have c_5 : ¬ (1 = 0) := fun z => c0 ((nI_eq (a := 1) (b := 0) (by omega) (by omega)).mpr z)
    refine lv_aload_n hx hb d_MO_part_12 rfl (lv_at hl 0 rfl) ?_
    refine va_get (D := (dC, dI)) (ci := 4) (v := .ref ga) (C := R_MO) (T := F_MO) (N := 11) hx hb ht i_MO hown hK hP 0 rfl rfl 3 (by decide) (ht _ q_3_116) (fun _ h9 => h9) rfl d_MO_part_13 ?_
    refine lv_iload_n hx hb d_MO_part_16 rfl (lv_at hl 1 rfl) ?_
    refine fm_cs S (c_MO_isThere l dC dI ga cB g x (hL)) rfl rfl k_MO_isThere q_3_194 ⟨Nat.le_of_ble_eq_true rfl, Nat.le_of_ble_eq_true rfl⟩ (hP.sub [1] rfl) (hK.sub [0] rfl) rfl hl.1 rfl (Nat.le_of_ble_eq_true rfl) ⟨Nat.zero_le _, Nat.zero_le _⟩ d_MO_part_17 ?_
    refine lv_if_eq (tgt := 44) hx hb d_MO_part_20 (by decide) (fun c0 => ?_) (fun c0 => ?_)
    · have c_20 : (fm_thI (fm_RB g) x) = false := fm_bI_f c0
      refine lv_iconst (v := nI (2)) hx hb d_MO_part_44 (by decide) ?_
      refine lv_goto (tgt := 49) hx hb d_MO_part_45 (by decide) ?_
      refine va_put (D := (dC, dI)) (ci := 4) (v := .int (nI (2))) (ty := .int) (C := R_MO) (T := F_MO) (N := 11) hx hb ht i_MO t_MO t_MO_ok n_MO hown hK hP hD hS 0 rfl rfl 0 (by decide) (ht _ q_3_113) (fun _ h9 => h9) rfl (by decide +kernel) (rfl) (rfl) (Nat.le_of_ble_eq_true rfl) d_MO_part_49 (fun H locs hP hD hS => ?_)
      have hP : va_P (dC, dI) classes [(h, .inr (4, [.int (nI (2)), .ref fa, .int (n0), .ref ga, .int (nI (1)), .int (nI (s0)), .ref ra, .int (rz), .ref ka, .ref wa, .int (ct)])), (ga, .inl (cB, 8192, .inl (g)))] _ := hP
      have hD : va_D A [(h, .inr (4, [.int (nI (2)), .ref fa, .int (n0), .ref ga, .int (nI (1)), .int (nI (s0)), .ref ra, .int (rz), .ref ka, .ref wa, .int (ct)])), (ga, .inl (cB, 8192, .inl (g)))] := hD
      refine lv_aload_n hx hb d_MO_part_52 rfl (lv_at hl 0 rfl) ?_
      refine va_get (D := (dC, dI)) (ci := 4) (v := .int (nI (2))) (C := R_MO) (T := F_MO) (N := 11) hx hb ht i_MO hown hK hP 0 rfl rfl 0 (by decide) (ht _ q_3_113) (fun _ h9 => h9) rfl d_MO_part_53 ?_
      refine lv_if_le (tgt := 63) hx hb d_MO_part_56 (by decide) (fun c0 => ?_) (fun c0 => ?_)
      · have c_56 : 2 ≤ 0 := (nI_leI (a := 2) (b := 0) (by omega) (by omega)).mp c0
        exact absurd c_56 (by decide)
      · have c_56 : ¬ (2 ≤ 0) := fun z => c0 ((nI_leI (a := 2) (b := 0) (by omega) (by omega)).mpr z)
        refine lv_iconst (v := nI (0)) hx hb d_MO_part_59 (by decide) ?_
        refine lv_goto (tgt := 81) hx hb d_MO_part_60 (by decide) ?_
        exact W.iret hx hb hr (fun t ht hW => ⟨congrArg (fun z => Outcome.returned (some (Value.int z))) (rfl), by rw [ht]; exact hP, hS.F ht⟩) hS.2.2 d_MO_part_81
    · have c_20 : (fm_thI (fm_RB g) x) = true := fm_bI_t c0
      obtain ⟨c, hc31, rfl, hth⟩ := fm_thI_t c_20
      obtain ⟨h1, h2, -⟩ := fm_th_in hth
      refine lv_aload_n hx hb d_MO_part_23 rfl (lv_at hl 0 rfl) ?_
      refine va_get (D := (dC, dI)) (ci := 4) (v := .ref ga) (C := R_MO) (T := F_MO) (N := 11) hx hb ht i_MO hown hK hP 0 rfl rfl 3 (by decide) (ht _ q_3_116) (fun _ h9 => h9) rfl d_MO_part_24 ?_
      refine lv_iload_n hx hb d_MO_part_27 rfl (lv_at hl 1 rfl) ?_
      refine fm_cs S (c_MO_tag l dC dI ga cB g c (hL) (h1) (h2)) rfl rfl k_MO_tag q_3_197 ⟨Nat.le_of_ble_eq_true rfl, Nat.le_of_ble_eq_true rfl⟩ (hP.sub [1] rfl) (hK.sub [0] rfl) rfl hl.1 rfl (Nat.le_of_ble_eq_true rfl) ⟨Nat.zero_le _, Nat.zero_le _⟩ d_MO_part_28 ?_
      have f0_28 := fm_tag_lt (fm_RB g) c
      refine lv_iconst (v := nI (3)) hx hb d_MO_part_31 (by decide) ?_
      refine lv_icmp_ne (tgt := 44) hx hb d_MO_part_32 (by decide) (fun c0 => ?_) (fun c0 => ?_)
      · have c_32 : ¬ (fm_tag (fm_RB g) c = 3) := fun z => c0 ((nI_eq (a := fm_tag (fm_RB g) c) (b := 3) (by omega) (by omega)).mpr z)
        refine lv_iconst (v := nI (2)) hx hb d_MO_part_44 (by decide) ?_
        refine lv_goto (tgt := 49) hx hb d_MO_part_45 (by decide) ?_
        refine va_put (D := (dC, dI)) (ci := 4) (v := .int (nI (2))) (ty := .int) (C := R_MO) (T := F_MO) (N := 11) hx hb ht i_MO t_MO t_MO_ok n_MO hown hK hP hD hS 0 rfl rfl 0 (by decide) (ht _ q_3_113) (fun _ h9 => h9) rfl (by decide +kernel) (rfl) (rfl) (Nat.le_of_ble_eq_true rfl) d_MO_part_49 (fun H locs hP hD hS => ?_)
        have hP : va_P (dC, dI) classes [(h, .inr (4, [.int (nI (2)), .ref fa, .int (n0), .ref ga, .int (nI (1)), .int (nI (s0)), .ref ra, .int (rz), .ref ka, .ref wa, .int (ct)])), (ga, .inl (cB, 8192, .inl (g)))] _ := hP
        have hD : va_D A [(h, .inr (4, [.int (nI (2)), .ref fa, .int (n0), .ref ga, .int (nI (1)), .int (nI (s0)), .ref ra, .int (rz), .ref ka, .ref wa, .int (ct)])), (ga, .inl (cB, 8192, .inl (g)))] := hD
        refine lv_aload_n hx hb d_MO_part_52 rfl (lv_at hl 0 rfl) ?_
        refine va_get (D := (dC, dI)) (ci := 4) (v := .int (nI (2))) (C := R_MO) (T := F_MO) (N := 11) hx hb ht i_MO hown hK hP 0 rfl rfl 0 (by decide) (ht _ q_3_113) (fun _ h9 => h9) rfl d_MO_part_53 ?_
        refine lv_if_le (tgt := 63) hx hb d_MO_part_56 (by decide) (fun c0 => ?_) (fun c0 => ?_)
        · have c_56 : 2 ≤ 0 := (nI_leI (a := 2) (b := 0) (by omega) (by omega)).mp c0
          exact absurd c_56 (by decide)
        · have c_56 : ¬ (2 ≤ 0) := fun z => c0 ((nI_leI (a := 2) (b := 0) (by omega) (by omega)).mpr z)
          refine lv_iconst (v := nI (0)) hx hb d_MO_part_59 (by decide) ?_
          refine lv_goto (tgt := 81) hx hb d_MO_part_60 (by decide) ?_
          exact W.iret hx hb hr (fun t ht hW => ⟨congrArg (fun z => Outcome.returned (some (Value.int z))) (rfl), by rw [ht]; exact hP, hS.F ht⟩) hS.2.2 d_MO_part_81
      · have c_32 : fm_tag (fm_RB g) c = 3 := (nI_eq (a := fm_tag (fm_RB g) c) (b := 3) (by omega) (by omega)).mp c0
        refine lv_iload_n hx hb d_MO_part_35 rfl (lv_at hl 2 rfl) ?_
        refine lv_if_lt (tgt := 44) hx hb d_MO_part_36 (by decide) (fun c0 => ?_) (fun c0 => ?_)
        · have c_36 := c0
          refine lv_iconst (v := nI (2)) hx hb d_MO_part_44 (by decide) ?_
          refine lv_goto (tgt := 49) hx hb d_MO_part_45 (by decide) ?_
          refine va_put (D := (dC, dI)) (ci := 4) (v := .int (nI (2))) (ty := .int) (C := R_MO) (T := F_MO) (N := 11) hx hb ht i_MO t_MO t_MO_ok n_MO hown hK hP hD hS 0 rfl rfl 0 (by decide) (ht _ q_3_113) (fun _ h9 => h9) rfl (by decide +kernel) (rfl) (rfl) (Nat.le_of_ble_eq_true rfl) d_MO_part_49 (fun H locs hP hD hS => ?_)
          have hP : va_P (dC, dI) classes [(h, .inr (4, [.int (nI (2)), .ref fa, .int (n0), .ref ga, .int (nI (1)), .int (nI (s0)), .ref ra, .int (rz), .ref ka, .ref wa, .int (ct)])), (ga, .inl (cB, 8192, .inl (g)))] _ := hP
          have hD : va_D A [(h, .inr (4, [.int (nI (2)), .ref fa, .int (n0), .ref ga, .int (nI (1)), .int (nI (s0)), .ref ra, .int (rz), .ref ka, .ref wa, .int (ct)])), (ga, .inl (cB, 8192, .inl (g)))] := hD
          refine lv_aload_n hx hb d_MO_part_52 rfl (lv_at hl 0 rfl) ?_
          refine va_get (D := (dC, dI)) (ci := 4) (v := .int (nI (2))) (C := R_MO) (T := F_MO) (N := 11) hx hb ht i_MO hown hK hP 0 rfl rfl 0 (by decide) (ht _ q_3_113) (fun _ h9 => h9) rfl d_MO_part_53 ?_
          refine lv_if_le (tgt := 63) hx hb d_MO_part_56 (by decide) (fun c0 => ?_) (fun c0 => ?_)
          · have c_56 : 2 ≤ 0 := (nI_leI (a := 2) (b := 0) (by omega) (by omega)).mp c0
            exact absurd c_56 (by decide)
          · have c_56 : ¬ (2 ≤ 0) := fun z => c0 ((nI_leI (a := 2) (b := 0) (by omega) (by omega)).mpr z)
            refine lv_iconst (v := nI (0)) hx hb d_MO_part_59 (by decide) ?_
            refine lv_goto (tgt := 81) hx hb d_MO_part_60 (by decide) ?_
            exact W.iret hx hb hr (fun t ht hW => ⟨congrArg (fun z => Outcome.returned (some (Value.int z))) (rfl), by rw [ht]; exact hP, hS.F ht⟩) hS.2.2 d_MO_part_81
        · have c_36 := c0
          refine lv_iload_n hx hb d_MO_part_39 rfl (lv_at hl 2 rfl) ?_
          refine lv_iconst (v := nI (3)) hx hb d_MO_part_40 (by decide) ?_
          refine lv_icmp_le (tgt := 48) hx hb d_MO_part_41 (by decide) (fun c0 => ?_) (fun c0 => ?_)
          · have c_41 := c0
            exact absurd c_41 (Int32.not_le.mpr (((hno c rfl hth).resolve_left (fun z => z c_32)).resolve_left c_36))
          · have c_41 := c0
            refine lv_iconst (v := nI (2)) hx hb d_MO_part_44 (by decide) ?_
            refine lv_goto (tgt := 49) hx hb d_MO_part_45 (by decide) ?_
            refine va_put (D := (dC, dI)) (ci := 4) (v := .int (nI (2))) (ty := .int) (C := R_MO) (T := F_MO) (N := 11) hx hb ht i_MO t_MO t_MO_ok n_MO hown hK hP hD hS 0 rfl rfl 0 (by decide) (ht _ q_3_113) (fun _ h9 => h9) rfl (by decide +kernel) (rfl) (rfl) (Nat.le_of_ble_eq_true rfl) d_MO_part_49 (fun H locs hP hD hS => ?_)
            have hP : va_P (dC, dI) classes [(h, .inr (4, [.int (nI (2)), .ref fa, .int (n0), .ref ga, .int (nI (1)), .int (nI (s0)), .ref ra, .int (rz), .ref ka, .ref wa, .int (ct)])), (ga, .inl (cB, 8192, .inl (g)))] _ := hP
            have hD : va_D A [(h, .inr (4, [.int (nI (2)), .ref fa, .int (n0), .ref ga, .int (nI (1)), .int (nI (s0)), .ref ra, .int (rz), .ref ka, .ref wa, .int (ct)])), (ga, .inl (cB, 8192, .inl (g)))] := hD
            refine lv_aload_n hx hb d_MO_part_52 rfl (lv_at hl 0 rfl) ?_
            refine va_get (D := (dC, dI)) (ci := 4) (v := .int (nI (2))) (C := R_MO) (T := F_MO) (N := 11) hx hb ht i_MO hown hK hP 0 rfl rfl 0 (by decide) (ht _ q_3_113) (fun _ h9 => h9) rfl d_MO_part_53 ?_
            refine lv_if_le (tgt := 63) hx hb d_MO_part_56 (by decide) (fun c0 => ?_) (fun c0 => ?_)
            · have c_56 : 2 ≤ 0 := (nI_leI (a := 2) (b := 0) (by omega) (by omega)).mp c0
              exact absurd c_56 (by decide)
            · have c_56 : ¬ (2 ≤ 0) := fun z => c0 ((nI_leI (a := 2) (b := 0) (by omega) (by omega)).mpr z)
              refine lv_iconst (v := nI (0)) hx hb d_MO_part_59 (by decide) ?_
              refine lv_goto (tgt := 81) hx hb d_MO_part_60 (by decide) ?_
              exact W.iret hx hb hr (fun t ht hW => ⟨congrArg (fun z => Outcome.returned (some (Value.int z))) (rfl), by rw [ht]; exact hP, hS.F ht⟩) hS.2.2 d_MO_part_81
  · have c_5 : 1 = 0 := (nI_eq (a := 1) (b := 0) (by omega) (by omega)).mp c0
    exact absurd c_5 (by decide)
set_option maxHeartbeats 4000000 in
set_option maxRecDepth 100000 in
theorem c_MO_partY (l : Launch) (dC : Nat → ClassId) (dI : Nat → Nat → Nat) (h : Nat) (th : Int32) (fa : Nat) (n0 : Int32) (ga : Nat) (ra : Nat) (rz : Int32) (ka : Nat) (wa : Nat) (ct : Int32) (s0 : Nat) (cB : ClassId) (g : Nat → Int32) (c : Nat) (k : Nat) (hV : fm_V (fm_RB g)) (hth : fm_th (fm_RB g) c = true) (hc31 : c < 2 ^ 31) (htg : fm_tag (fm_RB g) c = 3) (hk : k < 4) : fm_MW l (dC, dI) y_MO_part w_MO_part ({ frames := 5, cells := 0, slots := 0, locals := 109 }) [.ref h, .int (nI (c)), .int (nI (k))] [(h, .inr (4, [.int (th), .ref fa, .int (n0), .ref ga, .int (nI (1)), .int (nI (s0)), .ref ra, .int (rz), .ref ka, .ref wa, .int (ct)])), (ga, .inl (cB, 8192, .inl (g)))] [(h, .inr (4, [.int (nI (0)), .ref fa, .int (n0), .ref ga, .int (nI (1)), .int (nI (s0)), .ref ra, .int (rz), .ref ka, .ref wa, .int (ct)])), (ga, .inl (cB, 8192, .inl (g)))] [(cB, .byte)] (some (.int (nI (fm_AT (fm_RB g) 8 (fm_rest (fm_RB g) c) k)))) := by
  refine Met.ofW (cc := b_MO_part) (maxL := 3) (ret := (some .int)) (by decide) rfl ?_
  intro pg ev s m args below meth cd s₁ BD hml hv
  obtain ⟨rfl, hP, hK, hD0⟩ := hv
  have hx := BD.exec
  have hb := BD.bytes
  have hr := BD.returns
  have hts := atoms_spec (ws := w_MO_part) BD.pre
  have ht : ∀ w ∈ fm_T, w.before _ s = true := fun w h => hts w (List.mem_cons_of_mem _ h)
  have hown : s.vm.findClass R_MO = some m.cls := findClass_of_methodNamed BD.named
  have hlocks := BD.notSynchronized
  have S : CallFix pg m cd b_MO_part 3 s _ w_MO_part R_MO := ⟨hx, hb, hml, hown, hts⟩
  have hD := fm_selfD hD0
  generalize fm_A [(h, .inr (4, [.int (th), .ref fa, .int (n0), .ref ga, .int (nI (1)), .int (nI (s0)), .ref ra, .int (rz), .ref ka, .ref wa, .int (ct)])), (ga, .inl (cB, 8192, .inl (g)))] = A at hD ⊢
  have hS : va_S A s.heap s.heap [] := va_S.rf
  have hl := lv_entry ([.ref h, .int (nI (c)), .int (nI (k))]) (n := 3) (Nat.le_of_ble_eq_true rfl)
  rw [lg_entry_eq]
  generalize (lg_sl ([.ref h, .int (nI (c)), .int (nI (k))]) ++ List.replicate (3 - (lg_sl ([.ref h, .int (nI (c)), .int (nI (k))])).length) Slot.unset).toArray = ls at hl ⊢
  have hl : lv_has ls 3 [(0, .ref h), (1, .int (nI (c))), (2, .int (nI (k)))] := hl
  have hL := hV.1
  obtain ⟨-, hq, h3, h10⟩ := id hL
  obtain ⟨h1, h2, -⟩ := fm_th_in hth
  have hr8 := fm_pin hL (by decide : 8 < 10) ((fm_V_tag hV hth).2 htg)
  refine lv_aload_n hx hb d_MO_part_0 rfl (lv_at hl 0 rfl) ?_
  refine lv_aload_n hx hb d_MO_part_1 rfl (lv_at hl 0 rfl) ?_
  refine va_get (D := (dC, dI)) (ci := 4) (v := .int (nI (1))) (C := R_MO) (T := F_MO) (N := 11) hx hb ht i_MO hown hK hP 0 rfl rfl 4 (by decide) (ht _ q_3_117) (fun _ h9 => h9) rfl d_MO_part_2 ?_
  refine lv_if_ne (tgt := 12) hx hb d_MO_part_5 (by decide) (fun c0 => ?_) (fun c0 => ?_)
  · have c_5 : ¬ (1 = 0) := fun z => c0 ((nI_eq (a := 1) (b := 0) (by omega) (by omega)).mpr z)
    refine lv_aload_n hx hb d_MO_part_12 rfl (lv_at hl 0 rfl) ?_
    refine va_get (D := (dC, dI)) (ci := 4) (v := .ref ga) (C := R_MO) (T := F_MO) (N := 11) hx hb ht i_MO hown hK hP 0 rfl rfl 3 (by decide) (ht _ q_3_116) (fun _ h9 => h9) rfl d_MO_part_13 ?_
    refine lv_iload_n hx hb d_MO_part_16 rfl (lv_at hl 1 rfl) ?_
    refine fm_cs S (c_MO_isThereN l dC dI ga cB g c (by omega) (hL)) rfl rfl k_MO_isThere q_3_194 ⟨Nat.le_of_ble_eq_true rfl, Nat.le_of_ble_eq_true rfl⟩ (hP.sub [1] rfl) (hK.sub [0] rfl) rfl hl.1 rfl (Nat.le_of_ble_eq_true rfl) ⟨Nat.zero_le _, Nat.zero_le _⟩ d_MO_part_17 ?_
    refine lv_if_eq (tgt := 44) hx hb d_MO_part_20 (by decide) (fun c0 => ?_) (fun c0 => ?_)
    · have c_20 : (fm_th (fm_RB g) c) = false := fm_bI_f c0
      exact absurd c_20 (by rw [hth]; decide)
    · have c_20 : (fm_th (fm_RB g) c) = true := fm_bI_t c0
      refine lv_aload_n hx hb d_MO_part_23 rfl (lv_at hl 0 rfl) ?_
      refine va_get (D := (dC, dI)) (ci := 4) (v := .ref ga) (C := R_MO) (T := F_MO) (N := 11) hx hb ht i_MO hown hK hP 0 rfl rfl 3 (by decide) (ht _ q_3_116) (fun _ h9 => h9) rfl d_MO_part_24 ?_
      refine lv_iload_n hx hb d_MO_part_27 rfl (lv_at hl 1 rfl) ?_
      refine fm_cs S (c_MO_tag l dC dI ga cB g c (hL) (h1) (h2)) rfl rfl k_MO_tag q_3_197 ⟨Nat.le_of_ble_eq_true rfl, Nat.le_of_ble_eq_true rfl⟩ (hP.sub [1] rfl) (hK.sub [0] rfl) rfl hl.1 rfl (Nat.le_of_ble_eq_true rfl) ⟨Nat.zero_le _, Nat.zero_le _⟩ d_MO_part_28 ?_
      have f0_28 := fm_tag_lt (fm_RB g) c
      refine lv_iconst (v := nI (3)) hx hb d_MO_part_31 (by decide) ?_
      refine lv_icmp_ne (tgt := 44) hx hb d_MO_part_32 (by decide) (fun c0 => ?_) (fun c0 => ?_)
      · have c_32 : ¬ (fm_tag (fm_RB g) c = 3) := fun z => c0 ((nI_eq (a := fm_tag (fm_RB g) c) (b := 3) (by omega) (by omega)).mpr z)
        exact absurd htg c_32
      · have c_32 : fm_tag (fm_RB g) c = 3 := (nI_eq (a := fm_tag (fm_RB g) c) (b := 3) (by omega) (by omega)).mp c0
        refine lv_iload_n hx hb d_MO_part_35 rfl (lv_at hl 2 rfl) ?_
        refine lv_if_lt (tgt := 44) hx hb d_MO_part_36 (by decide) (fun c0 => ?_) (fun c0 => ?_)
        · have c_36 : k < 0 := (nI_ltI (a := k) (b := 0) (by omega) (by omega)).mp c0
          exact absurd c_36 (by omega)
        · have c_36 : ¬ (k < 0) := fun z => c0 ((nI_ltI (a := k) (b := 0) (by omega) (by omega)).mpr z)
          refine lv_iload_n hx hb d_MO_part_39 rfl (lv_at hl 2 rfl) ?_
          refine lv_iconst (v := nI (3)) hx hb d_MO_part_40 (by decide) ?_
          refine lv_icmp_le (tgt := 48) hx hb d_MO_part_41 (by decide) (fun c0 => ?_) (fun c0 => ?_)
          · have c_41 : k ≤ 3 := (nI_leI (a := k) (b := 3) (by omega) (by omega)).mp c0
            refine lv_iconst (v := nI (0)) hx hb d_MO_part_48 (by decide) ?_
            refine va_put (D := (dC, dI)) (ci := 4) (v := .int (nI (0))) (ty := .int) (C := R_MO) (T := F_MO) (N := 11) hx hb ht i_MO t_MO t_MO_ok n_MO hown hK hP hD hS 0 rfl rfl 0 (by decide) (ht _ q_3_113) (fun _ h9 => h9) rfl (by decide +kernel) (rfl) (rfl) (Nat.le_of_ble_eq_true rfl) d_MO_part_49 (fun H locs hP hD hS => ?_)
            have hP : va_P (dC, dI) classes [(h, .inr (4, [.int (nI (0)), .ref fa, .int (n0), .ref ga, .int (nI (1)), .int (nI (s0)), .ref ra, .int (rz), .ref ka, .ref wa, .int (ct)])), (ga, .inl (cB, 8192, .inl (g)))] _ := hP
            have hD : va_D A [(h, .inr (4, [.int (nI (0)), .ref fa, .int (n0), .ref ga, .int (nI (1)), .int (nI (s0)), .ref ra, .int (rz), .ref ka, .ref wa, .int (ct)])), (ga, .inl (cB, 8192, .inl (g)))] := hD
            refine lv_aload_n hx hb d_MO_part_52 rfl (lv_at hl 0 rfl) ?_
            refine va_get (D := (dC, dI)) (ci := 4) (v := .int (nI (0))) (C := R_MO) (T := F_MO) (N := 11) hx hb ht i_MO hown hK hP 0 rfl rfl 0 (by decide) (ht _ q_3_113) (fun _ h9 => h9) rfl d_MO_part_53 ?_
            refine lv_if_le (tgt := 63) hx hb d_MO_part_56 (by decide) (fun c0 => ?_) (fun c0 => ?_)
            · have c_56 : 0 ≤ 0 := (nI_leI (a := 0) (b := 0) (by omega) (by omega)).mp c0
              refine lv_aload_n hx hb d_MO_part_63 rfl (lv_at hl 0 rfl) ?_
              refine va_get (D := (dC, dI)) (ci := 4) (v := .ref ga) (C := R_MO) (T := F_MO) (N := 11) hx hb ht i_MO hown hK hP 0 rfl rfl 3 (by decide) (ht _ q_3_116) (fun _ h9 => h9) rfl d_MO_part_64 ?_
              refine lv_bipush (v := nI (8)) hx hb d_MO_part_67 (by decide) ?_
              refine lv_aload_n hx hb d_MO_part_69 rfl (lv_at hl 0 rfl) ?_
              refine va_get (D := (dC, dI)) (ci := 4) (v := .ref ga) (C := R_MO) (T := F_MO) (N := 11) hx hb ht i_MO hown hK hP 0 rfl rfl 3 (by decide) (ht _ q_3_116) (fun _ h9 => h9) rfl d_MO_part_70 ?_
              refine lv_iload_n hx hb d_MO_part_73 rfl (lv_at hl 1 rfl) ?_
              refine fm_cs S (c_MO_rest l dC dI ga cB g c (hL) (h1) (h2)) rfl rfl k_MO_rest q_3_200 ⟨Nat.le_of_ble_eq_true rfl, Nat.le_of_ble_eq_true rfl⟩ (hP.sub [1] rfl) (hK.sub [0] rfl) rfl hl.1 rfl (Nat.le_of_ble_eq_true rfl) ⟨Nat.zero_le _, Nat.zero_le _⟩ d_MO_part_74 ?_
              have f0_74 := fm_rest_lt (fm_RB_lt g) c
              refine lv_iload_n hx hb d_MO_part_77 rfl (lv_at hl 2 rfl) ?_
              refine fm_cs S (c_MO_at l dC dI ga cB g 8 (fm_rest (fm_RB g) c) k (by omega) (hq) (hr8) (by omega)) rfl rfl k_MO_at q_3_184 ⟨Nat.le_of_ble_eq_true rfl, Nat.le_of_ble_eq_true rfl⟩ (hP.sub [1] rfl) (hK.sub [0] rfl) rfl hl.1 rfl (Nat.le_of_ble_eq_true rfl) ⟨Nat.zero_le _, Nat.zero_le _⟩ d_MO_part_78 ?_
              have f0_78 := fm_AT_lt (fm_RB_lt g) 8 (fm_rest (fm_RB g) c) k
              exact W.iret hx hb hr (fun t ht hW => ⟨congrArg (fun z => Outcome.returned (some (Value.int z))) (rfl), by rw [ht]; exact hP, hS.F ht⟩) hS.2.2 d_MO_part_81
            · have c_56 : ¬ (0 ≤ 0) := fun z => c0 ((nI_leI (a := 0) (b := 0) (by omega) (by omega)).mpr z)
              exact absurd c_56 (by decide)
          · have c_41 : ¬ (k ≤ 3) := fun z => c0 ((nI_leI (a := k) (b := 3) (by omega) (by omega)).mpr z)
            exact absurd c_41 (by omega)
  · have c_5 : 1 = 0 := (nI_eq (a := 1) (b := 0) (by omega) (by omega)).mp c0
    exact absurd c_5 (by decide)
theorem d_MO_parameter_0 : decode b_MO_parameter 0 = .ok (.aload_n 0, 1) := by decide +kernel
theorem d_MO_parameter_1 : decode b_MO_parameter 1 = .ok (.aload_n 0, 1) := by decide +kernel
theorem d_MO_parameter_2 : decode b_MO_parameter 2 = .ok (.getfield 103, 3) := by decide +kernel
theorem d_MO_parameter_5 : decode b_MO_parameter 5 = .ok (.ifCond .ne 7, 3) := by decide +kernel
theorem d_MO_parameter_8 : decode b_MO_parameter 8 = .ok (.iconst 1, 1) := by decide +kernel
theorem d_MO_parameter_9 : decode b_MO_parameter 9 = .ok (.goto 26, 3) := by decide +kernel
theorem d_MO_parameter_12 : decode b_MO_parameter 12 = .ok (.iload_n 1, 1) := by decide +kernel
theorem d_MO_parameter_13 : decode b_MO_parameter 13 = .ok (.iconst 1, 1) := by decide +kernel
theorem d_MO_parameter_14 : decode b_MO_parameter 14 = .ok (.if_icmp .lt 16, 3) := by decide +kernel
theorem d_MO_parameter_17 : decode b_MO_parameter 17 = .ok (.iload_n 1, 1) := by decide +kernel
theorem d_MO_parameter_18 : decode b_MO_parameter 18 = .ok (.aload_n 0, 1) := by decide +kernel
theorem d_MO_parameter_19 : decode b_MO_parameter 19 = .ok (.getfield 13, 3) := by decide +kernel
theorem d_MO_parameter_22 : decode b_MO_parameter 22 = .ok (.bipush 9, 2) := by decide +kernel
theorem d_MO_parameter_24 : decode b_MO_parameter 24 = .ok (.invokestatic 37, 3) := by decide +kernel
theorem d_MO_parameter_27 : decode b_MO_parameter 27 = .ok (.if_icmp .le 7, 3) := by decide +kernel
theorem d_MO_parameter_30 : decode b_MO_parameter 30 = .ok (.iconst 2, 1) := by decide +kernel
theorem d_MO_parameter_31 : decode b_MO_parameter 31 = .ok (.goto 4, 3) := by decide +kernel
theorem d_MO_parameter_34 : decode b_MO_parameter 34 = .ok (.iconst 0, 1) := by decide +kernel
theorem d_MO_parameter_35 : decode b_MO_parameter 35 = .ok (.putfield 26, 3) := by decide +kernel
theorem d_MO_parameter_38 : decode b_MO_parameter 38 = .ok (.aload_n 0, 1) := by decide +kernel
theorem d_MO_parameter_39 : decode b_MO_parameter 39 = .ok (.getfield 26, 3) := by decide +kernel
theorem d_MO_parameter_42 : decode b_MO_parameter 42 = .ok (.ifCond .le 5, 3) := by decide +kernel
theorem d_MO_parameter_45 : decode b_MO_parameter 45 = .ok (.iconst 0, 1) := by decide +kernel
theorem d_MO_parameter_46 : decode b_MO_parameter 46 = .ok (.ireturn, 1) := by decide +kernel
theorem d_MO_parameter_47 : decode b_MO_parameter 47 = .ok (.iload_n 1, 1) := by decide +kernel
theorem d_MO_parameter_48 : decode b_MO_parameter 48 = .ok (.iconst 1, 1) := by decide +kernel
theorem d_MO_parameter_49 : decode b_MO_parameter 49 = .ok (.if_icmp .le 13, 3) := by decide +kernel
theorem d_MO_parameter_52 : decode b_MO_parameter 52 = .ok (.aload_n 0, 1) := by decide +kernel
theorem d_MO_parameter_53 : decode b_MO_parameter 53 = .ok (.bipush 9, 2) := by decide +kernel
theorem d_MO_parameter_55 : decode b_MO_parameter 55 = .ok (.iload_n 1, 1) := by decide +kernel
theorem d_MO_parameter_56 : decode b_MO_parameter 56 = .ok (.iconst 1, 1) := by decide +kernel
theorem d_MO_parameter_57 : decode b_MO_parameter 57 = .ok (.isub, 1) := by decide +kernel
theorem d_MO_parameter_58 : decode b_MO_parameter 58 = .ok (.invokevirtual 124, 3) := by decide +kernel
theorem d_MO_parameter_61 : decode b_MO_parameter 61 = .ok (.ireturn, 1) := by decide +kernel
theorem d_MO_parameter_62 : decode b_MO_parameter 62 = .ok (.iconst 0, 1) := by decide +kernel
theorem d_MO_parameter_63 : decode b_MO_parameter 63 = .ok (.istore_n 2, 1) := by decide +kernel
theorem d_MO_parameter_64 : decode b_MO_parameter 64 = .ok (.iconst 0, 1) := by decide +kernel
theorem d_MO_parameter_65 : decode b_MO_parameter 65 = .ok (.istore_n 3, 1) := by decide +kernel
theorem d_MO_parameter_66 : decode b_MO_parameter 66 = .ok (.iload_n 3, 1) := by decide +kernel
theorem d_MO_parameter_67 : decode b_MO_parameter 67 = .ok (.iconst 4, 1) := by decide +kernel
theorem d_MO_parameter_68 : decode b_MO_parameter 68 = .ok (.if_icmp .ge 26, 3) := by decide +kernel
theorem d_MO_parameter_71 : decode b_MO_parameter 71 = .ok (.iload_n 2, 1) := by decide +kernel
theorem d_MO_parameter_72 : decode b_MO_parameter 72 = .ok (.bipush 8, 2) := by decide +kernel
theorem d_MO_parameter_74 : decode b_MO_parameter 74 = .ok (.ishl, 1) := by decide +kernel
theorem d_MO_parameter_75 : decode b_MO_parameter 75 = .ok (.aload_n 0, 1) := by decide +kernel
theorem d_MO_parameter_76 : decode b_MO_parameter 76 = .ok (.getfield 13, 3) := by decide +kernel
theorem d_MO_parameter_79 : decode b_MO_parameter 79 = .ok (.bipush 9, 2) := by decide +kernel
theorem d_MO_parameter_81 : decode b_MO_parameter 81 = .ok (.iconst 0, 1) := by decide +kernel
theorem d_MO_parameter_82 : decode b_MO_parameter 82 = .ok (.iload_n 3, 1) := by decide +kernel
theorem d_MO_parameter_83 : decode b_MO_parameter 83 = .ok (.invokestatic 43, 3) := by decide +kernel
theorem d_MO_parameter_86 : decode b_MO_parameter 86 = .ok (.ior, 1) := by decide +kernel
theorem d_MO_parameter_87 : decode b_MO_parameter 87 = .ok (.istore_n 2, 1) := by decide +kernel
theorem d_MO_parameter_88 : decode b_MO_parameter 88 = .ok (.iinc 3 1, 3) := by decide +kernel
theorem d_MO_parameter_91 : decode b_MO_parameter 91 = .ok (.goto (-25), 3) := by decide +kernel
theorem d_MO_parameter_94 : decode b_MO_parameter 94 = .ok (.iload_n 2, 1) := by decide +kernel
theorem d_MO_parameter_95 : decode b_MO_parameter 95 = .ok (.iconst 4, 1) := by decide +kernel
theorem d_MO_parameter_96 : decode b_MO_parameter 96 = .ok (.ishr, 1) := by decide +kernel
theorem d_MO_parameter_97 : decode b_MO_parameter 97 = .ok (.ireturn, 1) := by decide +kernel
set_option maxHeartbeats 4000000 in
set_option maxRecDepth 100000 in
theorem c_MO_parameterU (l : Launch) (dC : Nat → ClassId) (dI : Nat → Nat → Nat) (h : Nat) (th : Int32) (fa : Nat) (n0 : Int32) (ga : Nat) (sz : Int32) (ra : Nat) (rz : Int32) (ka : Nat) (wa : Nat) (ct : Int32) (x : Int32)  : fm_MW l (dC, dI) y_MO_parameter w_MO_parameter ({ frames := 0, cells := 0, slots := 0, locals := 0 }) [.ref h, .int (x)] [(h, .inr (4, [.int (th), .ref fa, .int (n0), .ref ga, .int (nI (0)), .int (sz), .ref ra, .int (rz), .ref ka, .ref wa, .int (ct)]))] [(h, .inr (4, [.int (nI (1)), .ref fa, .int (n0), .ref ga, .int (nI (0)), .int (sz), .ref ra, .int (rz), .ref ka, .ref wa, .int (ct)]))] [] (some (.int (nI (0)))) := by
  refine Met.ofW (cc := b_MO_parameter) (maxL := 4) (ret := (some .int)) (by decide) rfl ?_
  intro pg ev s m args below meth cd s₁ BD hml hv
  obtain ⟨rfl, hP, hK, hD0⟩ := hv
  have hx := BD.exec
  have hb := BD.bytes
  have hr := BD.returns
  have hts := atoms_spec (ws := w_MO_parameter) BD.pre
  have ht : ∀ w ∈ fm_T, w.before _ s = true := fun w h => hts w (List.mem_cons_of_mem _ h)
  have hown : s.vm.findClass R_MO = some m.cls := findClass_of_methodNamed BD.named
  have hlocks := BD.notSynchronized
  have S : CallFix pg m cd b_MO_parameter 4 s _ w_MO_parameter R_MO := ⟨hx, hb, hml, hown, hts⟩
  have hD := fm_selfD hD0
  generalize fm_A [(h, .inr (4, [.int (th), .ref fa, .int (n0), .ref ga, .int (nI (0)), .int (sz), .ref ra, .int (rz), .ref ka, .ref wa, .int (ct)]))] = A at hD ⊢
  have hS : va_S A s.heap s.heap [] := va_S.rf
  have hl := lv_entry ([.ref h, .int (x)]) (n := 4) (Nat.le_of_ble_eq_true rfl)
  rw [lg_entry_eq]
  generalize (lg_sl ([.ref h, .int (x)]) ++ List.replicate (4 - (lg_sl ([.ref h, .int (x)])).length) Slot.unset).toArray = ls at hl ⊢
  have hl : lv_has ls 4 [(0, .ref h), (1, .int (x))] := hl
  refine lv_aload_n hx hb d_MO_parameter_0 rfl (lv_at hl 0 rfl) ?_
  refine lv_aload_n hx hb d_MO_parameter_1 rfl (lv_at hl 0 rfl) ?_
  refine va_get (D := (dC, dI)) (ci := 4) (v := .int (nI (0))) (C := R_MO) (T := F_MO) (N := 11) hx hb ht i_MO hown hK hP 0 rfl rfl 4 (by decide) (ht _ q_3_117) (fun _ h9 => h9) rfl d_MO_parameter_2 ?_
  refine lv_if_ne (tgt := 12) hx hb d_MO_parameter_5 (by decide) (fun c0 => ?_) (fun c0 => ?_)
  · have c_5 : ¬ (0 = 0) := fun z => c0 ((nI_eq (a := 0) (b := 0) (by omega) (by omega)).mpr z)
    exact absurd c_5 (by decide)
  · have c_5 : 0 = 0 := (nI_eq (a := 0) (b := 0) (by omega) (by omega)).mp c0
    refine lv_iconst (v := nI (1)) hx hb d_MO_parameter_8 (by decide) ?_
    refine lv_goto (tgt := 35) hx hb d_MO_parameter_9 (by decide) ?_
    refine va_put (D := (dC, dI)) (ci := 4) (v := .int (nI (1))) (ty := .int) (C := R_MO) (T := F_MO) (N := 11) hx hb ht i_MO t_MO t_MO_ok n_MO hown hK hP hD hS 0 rfl rfl 0 (by decide) (ht _ q_3_113) (fun _ h9 => h9) rfl (by decide +kernel) (rfl) (rfl) (Nat.le_of_ble_eq_true rfl) d_MO_parameter_35 (fun H locs hP hD hS => ?_)
    have hP : va_P (dC, dI) classes [(h, .inr (4, [.int (nI (1)), .ref fa, .int (n0), .ref ga, .int (nI (0)), .int (sz), .ref ra, .int (rz), .ref ka, .ref wa, .int (ct)]))] _ := hP
    have hD : va_D A [(h, .inr (4, [.int (nI (1)), .ref fa, .int (n0), .ref ga, .int (nI (0)), .int (sz), .ref ra, .int (rz), .ref ka, .ref wa, .int (ct)]))] := hD
    refine lv_aload_n hx hb d_MO_parameter_38 rfl (lv_at hl 0 rfl) ?_
    refine va_get (D := (dC, dI)) (ci := 4) (v := .int (nI (1))) (C := R_MO) (T := F_MO) (N := 11) hx hb ht i_MO hown hK hP 0 rfl rfl 0 (by decide) (ht _ q_3_113) (fun _ h9 => h9) rfl d_MO_parameter_39 ?_
    refine lv_if_le (tgt := 47) hx hb d_MO_parameter_42 (by decide) (fun c0 => ?_) (fun c0 => ?_)
    · have c_42 : 1 ≤ 0 := (nI_leI (a := 1) (b := 0) (by omega) (by omega)).mp c0
      exact absurd c_42 (by decide)
    · have c_42 : ¬ (1 ≤ 0) := fun z => c0 ((nI_leI (a := 1) (b := 0) (by omega) (by omega)).mpr z)
      refine lv_iconst (v := nI (0)) hx hb d_MO_parameter_45 (by decide) ?_
      exact W.iret hx hb hr (fun t ht hW => ⟨congrArg (fun z => Outcome.returned (some (Value.int z))) (rfl), by rw [ht]; exact hP, hS.F ht⟩) hS.2.2 d_MO_parameter_46
set_option maxHeartbeats 4000000 in
set_option maxRecDepth 100000 in
theorem c_MO_parameterN (l : Launch) (dC : Nat → ClassId) (dI : Nat → Nat → Nat) (h : Nat) (th : Int32) (fa : Nat) (n0 : Int32) (ga : Nat) (ra : Nat) (rz : Int32) (ka : Nat) (wa : Nat) (ct : Int32) (s0 : Nat) (cB : ClassId) (g : Nat → Int32) (x : Int32) (hL : fm_Len (fm_RB g)) (hno : ∀ i : Nat, x = nI i → 0 < i → fm_WD (fm_RB g) 9 < i) : fm_MW l (dC, dI) y_MO_parameter w_MO_parameter ({ frames := 2, cells := 0, slots := 0, locals := 42 }) [.ref h, .int (x)] [(h, .inr (4, [.int (th), .ref fa, .int (n0), .ref ga, .int (nI (1)), .int (nI (s0)), .ref ra, .int (rz), .ref ka, .ref wa, .int (ct)])), (ga, .inl (cB, 8192, .inl (g)))] [(h, .inr (4, [.int (nI (2)), .ref fa, .int (n0), .ref ga, .int (nI (1)), .int (nI (s0)), .ref ra, .int (rz), .ref ka, .ref wa, .int (ct)])), (ga, .inl (cB, 8192, .inl (g)))] [(cB, .byte)] (some (.int (nI (0)))) := by
  refine Met.ofW (cc := b_MO_parameter) (maxL := 4) (ret := (some .int)) (by decide) rfl ?_
  intro pg ev s m args below meth cd s₁ BD hml hv
  obtain ⟨rfl, hP, hK, hD0⟩ := hv
  have hx := BD.exec
  have hb := BD.bytes
  have hr := BD.returns
  have hts := atoms_spec (ws := w_MO_parameter) BD.pre
  have ht : ∀ w ∈ fm_T, w.before _ s = true := fun w h => hts w (List.mem_cons_of_mem _ h)
  have hown : s.vm.findClass R_MO = some m.cls := findClass_of_methodNamed BD.named
  have hlocks := BD.notSynchronized
  have S : CallFix pg m cd b_MO_parameter 4 s _ w_MO_parameter R_MO := ⟨hx, hb, hml, hown, hts⟩
  have hD := fm_selfD hD0
  generalize fm_A [(h, .inr (4, [.int (th), .ref fa, .int (n0), .ref ga, .int (nI (1)), .int (nI (s0)), .ref ra, .int (rz), .ref ka, .ref wa, .int (ct)])), (ga, .inl (cB, 8192, .inl (g)))] = A at hD ⊢
  have hS : va_S A s.heap s.heap [] := va_S.rf
  have hl := lv_entry ([.ref h, .int (x)]) (n := 4) (Nat.le_of_ble_eq_true rfl)
  rw [lg_entry_eq]
  generalize (lg_sl ([.ref h, .int (x)]) ++ List.replicate (4 - (lg_sl ([.ref h, .int (x)])).length) Slot.unset).toArray = ls at hl ⊢
  have hl : lv_has ls 4 [(0, .ref h), (1, .int (x))] := hl
  obtain ⟨-, hq, h3, h10⟩ := id hL
  have hw9 := fm_WD_le (fm_RB_lt g) 9
  refine lv_aload_n hx hb d_MO_parameter_0 rfl (lv_at hl 0 rfl) ?_
  refine lv_aload_n hx hb d_MO_parameter_1 rfl (lv_at hl 0 rfl) ?_
  refine va_get (D := (dC, dI)) (ci := 4) (v := .int (nI (1))) (C := R_MO) (T := F_MO) (N := 11) hx hb ht i_MO hown hK hP 0 rfl rfl 4 (by decide) (ht _ q_3_117) (fun _ h9 => h9) rfl d_MO_parameter_2 ?_
  refine lv_if_ne (tgt := 12) hx hb d_MO_parameter_5 (by decide) (fun c0 => ?_) (fun c0 => ?_)
  · have c_5 : ¬ (1 = 0) := fun z => c0 ((nI_eq (a := 1) (b := 0) (by omega) (by omega)).mpr z)
    refine lv_iload_n hx hb d_MO_parameter_12 rfl (lv_at hl 1 rfl) ?_
    refine lv_iconst (v := nI (1)) hx hb d_MO_parameter_13 (by decide) ?_
    refine lv_icmp_lt (tgt := 30) hx hb d_MO_parameter_14 (by decide) (fun c0 => ?_) (fun c0 => ?_)
    · have c_14 := c0
      refine lv_iconst (v := nI (2)) hx hb d_MO_parameter_30 (by decide) ?_
      refine lv_goto (tgt := 35) hx hb d_MO_parameter_31 (by decide) ?_
      refine va_put (D := (dC, dI)) (ci := 4) (v := .int (nI (2))) (ty := .int) (C := R_MO) (T := F_MO) (N := 11) hx hb ht i_MO t_MO t_MO_ok n_MO hown hK hP hD hS 0 rfl rfl 0 (by decide) (ht _ q_3_113) (fun _ h9 => h9) rfl (by decide +kernel) (rfl) (rfl) (Nat.le_of_ble_eq_true rfl) d_MO_parameter_35 (fun H locs hP hD hS => ?_)
      have hP : va_P (dC, dI) classes [(h, .inr (4, [.int (nI (2)), .ref fa, .int (n0), .ref ga, .int (nI (1)), .int (nI (s0)), .ref ra, .int (rz), .ref ka, .ref wa, .int (ct)])), (ga, .inl (cB, 8192, .inl (g)))] _ := hP
      have hD : va_D A [(h, .inr (4, [.int (nI (2)), .ref fa, .int (n0), .ref ga, .int (nI (1)), .int (nI (s0)), .ref ra, .int (rz), .ref ka, .ref wa, .int (ct)])), (ga, .inl (cB, 8192, .inl (g)))] := hD
      refine lv_aload_n hx hb d_MO_parameter_38 rfl (lv_at hl 0 rfl) ?_
      refine va_get (D := (dC, dI)) (ci := 4) (v := .int (nI (2))) (C := R_MO) (T := F_MO) (N := 11) hx hb ht i_MO hown hK hP 0 rfl rfl 0 (by decide) (ht _ q_3_113) (fun _ h9 => h9) rfl d_MO_parameter_39 ?_
      refine lv_if_le (tgt := 47) hx hb d_MO_parameter_42 (by decide) (fun c0 => ?_) (fun c0 => ?_)
      · have c_42 : 2 ≤ 0 := (nI_leI (a := 2) (b := 0) (by omega) (by omega)).mp c0
        exact absurd c_42 (by decide)
      · have c_42 : ¬ (2 ≤ 0) := fun z => c0 ((nI_leI (a := 2) (b := 0) (by omega) (by omega)).mpr z)
        refine lv_iconst (v := nI (0)) hx hb d_MO_parameter_45 (by decide) ?_
        exact W.iret hx hb hr (fun t ht hW => ⟨congrArg (fun z => Outcome.returned (some (Value.int z))) (rfl), by rw [ht]; exact hP, hS.F ht⟩) hS.2.2 d_MO_parameter_46
    · have c_14 := c0
      obtain ⟨i, hi31, hi1, rfl⟩ := fm_ge (show 1 < 2 ^ 31 by decide) c_14
      refine lv_iload_n hx hb d_MO_parameter_17 rfl (lv_at hl 1 rfl) ?_
      refine lv_aload_n hx hb d_MO_parameter_18 rfl (lv_at hl 0 rfl) ?_
      refine va_get (D := (dC, dI)) (ci := 4) (v := .ref ga) (C := R_MO) (T := F_MO) (N := 11) hx hb ht i_MO hown hK hP 0 rfl rfl 3 (by decide) (ht _ q_3_116) (fun _ h9 => h9) rfl d_MO_parameter_19 ?_
      refine lv_bipush (v := nI (9)) hx hb d_MO_parameter_22 (by decide) ?_
      refine fm_cs S (c_MO_words l dC dI ga cB g 9 (by omega) (fun z => by omega)) rfl rfl k_MO_words q_3_175 ⟨Nat.le_of_ble_eq_true rfl, Nat.le_of_ble_eq_true rfl⟩ (hP.sub [1] rfl) (hK.sub [0] rfl) rfl hl.1 rfl (Nat.le_of_ble_eq_true rfl) ⟨Nat.zero_le _, Nat.zero_le _⟩ d_MO_parameter_24 ?_
      have f0_24 := fm_WD_le (fm_RB_lt g) 9
      refine lv_icmp_le (tgt := 34) hx hb d_MO_parameter_27 (by decide) (fun c0 => ?_) (fun c0 => ?_)
      · have c_27 : i ≤ fm_WD (fm_RB g) 9 := (nI_leI (a := i) (b := fm_WD (fm_RB g) 9) (by omega) (by omega)).mp c0
        exact absurd (hno i rfl hi1) (by omega)
      · have c_27 : ¬ (i ≤ fm_WD (fm_RB g) 9) := fun z => c0 ((nI_leI (a := i) (b := fm_WD (fm_RB g) 9) (by omega) (by omega)).mpr z)
        refine lv_iconst (v := nI (2)) hx hb d_MO_parameter_30 (by decide) ?_
        refine lv_goto (tgt := 35) hx hb d_MO_parameter_31 (by decide) ?_
        refine va_put (D := (dC, dI)) (ci := 4) (v := .int (nI (2))) (ty := .int) (C := R_MO) (T := F_MO) (N := 11) hx hb ht i_MO t_MO t_MO_ok n_MO hown hK hP hD hS 0 rfl rfl 0 (by decide) (ht _ q_3_113) (fun _ h9 => h9) rfl (by decide +kernel) (rfl) (rfl) (Nat.le_of_ble_eq_true rfl) d_MO_parameter_35 (fun H locs hP hD hS => ?_)
        have hP : va_P (dC, dI) classes [(h, .inr (4, [.int (nI (2)), .ref fa, .int (n0), .ref ga, .int (nI (1)), .int (nI (s0)), .ref ra, .int (rz), .ref ka, .ref wa, .int (ct)])), (ga, .inl (cB, 8192, .inl (g)))] _ := hP
        have hD : va_D A [(h, .inr (4, [.int (nI (2)), .ref fa, .int (n0), .ref ga, .int (nI (1)), .int (nI (s0)), .ref ra, .int (rz), .ref ka, .ref wa, .int (ct)])), (ga, .inl (cB, 8192, .inl (g)))] := hD
        refine lv_aload_n hx hb d_MO_parameter_38 rfl (lv_at hl 0 rfl) ?_
        refine va_get (D := (dC, dI)) (ci := 4) (v := .int (nI (2))) (C := R_MO) (T := F_MO) (N := 11) hx hb ht i_MO hown hK hP 0 rfl rfl 0 (by decide) (ht _ q_3_113) (fun _ h9 => h9) rfl d_MO_parameter_39 ?_
        refine lv_if_le (tgt := 47) hx hb d_MO_parameter_42 (by decide) (fun c0 => ?_) (fun c0 => ?_)
        · have c_42 : 2 ≤ 0 := (nI_leI (a := 2) (b := 0) (by omega) (by omega)).mp c0
          exact absurd c_42 (by decide)
        · have c_42 : ¬ (2 ≤ 0) := fun z => c0 ((nI_leI (a := 2) (b := 0) (by omega) (by omega)).mpr z)
          refine lv_iconst (v := nI (0)) hx hb d_MO_parameter_45 (by decide) ?_
          exact W.iret hx hb hr (fun t ht hW => ⟨congrArg (fun z => Outcome.returned (some (Value.int z))) (rfl), by rw [ht]; exact hP, hS.F ht⟩) hS.2.2 d_MO_parameter_46
  · have c_5 : 1 = 0 := (nI_eq (a := 1) (b := 0) (by omega) (by omega)).mp c0
    exact absurd c_5 (by decide)
set_option maxHeartbeats 4000000 in
set_option maxRecDepth 100000 in
theorem c_MO_parameterY (l : Launch) (dC : Nat → ClassId) (dI : Nat → Nat → Nat) (h : Nat) (th : Int32) (fa : Nat) (n0 : Int32) (ga : Nat) (ra : Nat) (rz : Int32) (ka : Nat) (wa : Nat) (ct : Int32) (s0 : Nat) (cB : ClassId) (g : Nat → Int32) (i : Nat) (hL : fm_Len (fm_RB g)) (hs : s0 < 134217728) (hi1 : 0 < i) (hi2 : i ≤ fm_WD (fm_RB g) 9) : fm_MW l (dC, dI) y_MO_parameter w_MO_parameter ({ frames := 5, cells := 0, slots := 0, locals := 117 }) [.ref h, .int (nI (i))] [(h, .inr (4, [.int (th), .ref fa, .int (n0), .ref ga, .int (nI (1)), .int (nI (s0)), .ref ra, .int (rz), .ref ka, .ref wa, .int (ct)])), (ga, .inl (cB, 8192, .inl (g)))] [(h, .inr (4, [.int (nI (0)), .ref fa, .int (n0), .ref ga, .int (nI (1)), .int (nI (s0)), .ref ra, .int (rz), .ref ka, .ref wa, .int (ct)])), (ga, .inl (cB, 8192, .inl (g)))] [(cB, .byte)] (some (.int (fm_par (fm_RB g) s0 i))) := by
  refine Met.ofW (cc := b_MO_parameter) (maxL := 4) (ret := (some .int)) (by decide) rfl ?_
  intro pg ev s m args below meth cd s₁ BD hml hv
  obtain ⟨rfl, hP, hK, hD0⟩ := hv
  have hx := BD.exec
  have hb := BD.bytes
  have hr := BD.returns
  have hts := atoms_spec (ws := w_MO_parameter) BD.pre
  have ht : ∀ w ∈ fm_T, w.before _ s = true := fun w h => hts w (List.mem_cons_of_mem _ h)
  have hown : s.vm.findClass R_MO = some m.cls := findClass_of_methodNamed BD.named
  have hlocks := BD.notSynchronized
  have S : CallFix pg m cd b_MO_parameter 4 s _ w_MO_parameter R_MO := ⟨hx, hb, hml, hown, hts⟩
  have hD := fm_selfD hD0
  generalize fm_A [(h, .inr (4, [.int (th), .ref fa, .int (n0), .ref ga, .int (nI (1)), .int (nI (s0)), .ref ra, .int (rz), .ref ka, .ref wa, .int (ct)])), (ga, .inl (cB, 8192, .inl (g)))] = A at hD ⊢
  have hS : va_S A s.heap s.heap [] := va_S.rf
  have hl := lv_entry ([.ref h, .int (nI (i))]) (n := 4) (Nat.le_of_ble_eq_true rfl)
  rw [lg_entry_eq]
  generalize (lg_sl ([.ref h, .int (nI (i))]) ++ List.replicate (4 - (lg_sl ([.ref h, .int (nI (i))])).length) Slot.unset).toArray = ls at hl ⊢
  have hl : lv_has ls 4 [(0, .ref h), (1, .int (nI (i)))] := hl
  obtain ⟨-, hq, h3, h10⟩ := id hL
  have hw9 := fm_WD_le (fm_RB_lt g) 9
  have hin0 := fm_pin hL (by decide : 9 < 10) (k := 0) (by omega)
  have hin1 := fm_pin hL (by decide : 9 < 10) (k := i - 1) (by omega)
  refine lv_aload_n hx hb d_MO_parameter_0 rfl (lv_at hl 0 rfl) ?_
  refine lv_aload_n hx hb d_MO_parameter_1 rfl (lv_at hl 0 rfl) ?_
  refine va_get (D := (dC, dI)) (ci := 4) (v := .int (nI (1))) (C := R_MO) (T := F_MO) (N := 11) hx hb ht i_MO hown hK hP 0 rfl rfl 4 (by decide) (ht _ q_3_117) (fun _ h9 => h9) rfl d_MO_parameter_2 ?_
  refine lv_if_ne (tgt := 12) hx hb d_MO_parameter_5 (by decide) (fun c0 => ?_) (fun c0 => ?_)
  · have c_5 : ¬ (1 = 0) := fun z => c0 ((nI_eq (a := 1) (b := 0) (by omega) (by omega)).mpr z)
    refine lv_iload_n hx hb d_MO_parameter_12 rfl (lv_at hl 1 rfl) ?_
    refine lv_iconst (v := nI (1)) hx hb d_MO_parameter_13 (by decide) ?_
    refine lv_icmp_lt (tgt := 30) hx hb d_MO_parameter_14 (by decide) (fun c0 => ?_) (fun c0 => ?_)
    · have c_14 : i < 1 := (nI_ltI (a := i) (b := 1) (by omega) (by omega)).mp c0
      exact absurd c_14 (by omega)
    · have c_14 : ¬ (i < 1) := fun z => c0 ((nI_ltI (a := i) (b := 1) (by omega) (by omega)).mpr z)
      refine lv_iload_n hx hb d_MO_parameter_17 rfl (lv_at hl 1 rfl) ?_
      refine lv_aload_n hx hb d_MO_parameter_18 rfl (lv_at hl 0 rfl) ?_
      refine va_get (D := (dC, dI)) (ci := 4) (v := .ref ga) (C := R_MO) (T := F_MO) (N := 11) hx hb ht i_MO hown hK hP 0 rfl rfl 3 (by decide) (ht _ q_3_116) (fun _ h9 => h9) rfl d_MO_parameter_19 ?_
      refine lv_bipush (v := nI (9)) hx hb d_MO_parameter_22 (by decide) ?_
      refine fm_cs S (c_MO_words l dC dI ga cB g 9 (by omega) (fun z => by omega)) rfl rfl k_MO_words q_3_175 ⟨Nat.le_of_ble_eq_true rfl, Nat.le_of_ble_eq_true rfl⟩ (hP.sub [1] rfl) (hK.sub [0] rfl) rfl hl.1 rfl (Nat.le_of_ble_eq_true rfl) ⟨Nat.zero_le _, Nat.zero_le _⟩ d_MO_parameter_24 ?_
      have f0_24 := fm_WD_le (fm_RB_lt g) 9
      refine lv_icmp_le (tgt := 34) hx hb d_MO_parameter_27 (by decide) (fun c0 => ?_) (fun c0 => ?_)
      · have c_27 : i ≤ fm_WD (fm_RB g) 9 := (nI_leI (a := i) (b := fm_WD (fm_RB g) 9) (by omega) (by omega)).mp c0
        refine lv_iconst (v := nI (0)) hx hb d_MO_parameter_34 (by decide) ?_
        refine va_put (D := (dC, dI)) (ci := 4) (v := .int (nI (0))) (ty := .int) (C := R_MO) (T := F_MO) (N := 11) hx hb ht i_MO t_MO t_MO_ok n_MO hown hK hP hD hS 0 rfl rfl 0 (by decide) (ht _ q_3_113) (fun _ h9 => h9) rfl (by decide +kernel) (rfl) (rfl) (Nat.le_of_ble_eq_true rfl) d_MO_parameter_35 (fun H locs hP hD hS => ?_)
        have hP : va_P (dC, dI) classes [(h, .inr (4, [.int (nI (0)), .ref fa, .int (n0), .ref ga, .int (nI (1)), .int (nI (s0)), .ref ra, .int (rz), .ref ka, .ref wa, .int (ct)])), (ga, .inl (cB, 8192, .inl (g)))] _ := hP
        have hD : va_D A [(h, .inr (4, [.int (nI (0)), .ref fa, .int (n0), .ref ga, .int (nI (1)), .int (nI (s0)), .ref ra, .int (rz), .ref ka, .ref wa, .int (ct)])), (ga, .inl (cB, 8192, .inl (g)))] := hD
        refine lv_aload_n hx hb d_MO_parameter_38 rfl (lv_at hl 0 rfl) ?_
        refine va_get (D := (dC, dI)) (ci := 4) (v := .int (nI (0))) (C := R_MO) (T := F_MO) (N := 11) hx hb ht i_MO hown hK hP 0 rfl rfl 0 (by decide) (ht _ q_3_113) (fun _ h9 => h9) rfl d_MO_parameter_39 ?_
        refine lv_if_le (tgt := 47) hx hb d_MO_parameter_42 (by decide) (fun c0 => ?_) (fun c0 => ?_)
        · have c_42 : 0 ≤ 0 := (nI_leI (a := 0) (b := 0) (by omega) (by omega)).mp c0
          refine lv_iload_n hx hb d_MO_parameter_47 rfl (lv_at hl 1 rfl) ?_
          refine lv_iconst (v := nI (1)) hx hb d_MO_parameter_48 (by decide) ?_
          refine lv_icmp_le (tgt := 62) hx hb d_MO_parameter_49 (by decide) (fun c0 => ?_) (fun c0 => ?_)
          · have c_49 : i ≤ 1 := (nI_leI (a := i) (b := 1) (by omega) (by omega)).mp c0
            refine lv_iconst (v := nI (0)) hx hb d_MO_parameter_62 (by decide) ?_
            refine lv_istore_n (lv' := [(2, .int (nI (0))), (0, .ref h), (1, .int (nI (i)))]) hx hb d_MO_parameter_63 rfl hl (by decide) rfl (fun ls hl => ?_)
            refine lv_iconst (v := nI (0)) hx hb d_MO_parameter_64 (by decide) ?_
            refine lv_istore_n (lv' := [(3, .int (nI (0))), (2, .int (nI (0))), (0, .ref h), (1, .int (nI (i)))]) hx hb d_MO_parameter_65 rfl hl (by decide) rfl (fun ls hl => ?_)
            refine lv_iload_n hx hb d_MO_parameter_66 rfl (lv_at hl 0 rfl) ?_
            refine lv_iconst (v := nI (4)) hx hb d_MO_parameter_67 (by decide) ?_
            refine lv_icmp_ge (tgt := 94) hx hb d_MO_parameter_68 (by decide) (fun c0 => ?_) (fun c0 => ?_)
            · have c_68 : 4 ≤ 0 := (nI_leI (a := 4) (b := 0) (by omega) (by omega)).mp c0
              exact absurd c_68 (by decide)
            · have c_68 : ¬ (4 ≤ 0) := fun z => c0 ((nI_leI (a := 4) (b := 0) (by omega) (by omega)).mpr z)
              refine lv_iload_n hx hb d_MO_parameter_71 rfl (lv_at hl 1 rfl) ?_
              refine lv_bipush (v := nI (8)) hx hb d_MO_parameter_72 (by decide) ?_
              refine lv_ishl hx hb d_MO_parameter_74 ?_
              refine lv_aload_n hx hb d_MO_parameter_75 rfl (lv_at hl 2 rfl) ?_
              refine va_get (D := (dC, dI)) (ci := 4) (v := .ref ga) (C := R_MO) (T := F_MO) (N := 11) hx hb ht i_MO hown hK hP 0 rfl rfl 3 (by decide) (ht _ q_3_116) (fun _ h9 => h9) rfl d_MO_parameter_76 ?_
              refine lv_bipush (v := nI (9)) hx hb d_MO_parameter_79 (by decide) ?_
              refine lv_iconst (v := nI (0)) hx hb d_MO_parameter_81 (by decide) ?_
              refine lv_iload_n hx hb d_MO_parameter_82 rfl (lv_at hl 0 rfl) ?_
              refine fm_cs S (c_MO_at l dC dI ga cB g 9 0 0 (by omega) (hq) (by omega) (by omega)) rfl rfl k_MO_at q_3_184 ⟨Nat.le_of_ble_eq_true rfl, Nat.le_of_ble_eq_true rfl⟩ (hP.sub [1] rfl) (hK.sub [0] rfl) rfl hl.1 rfl (Nat.le_of_ble_eq_true rfl) ⟨Nat.zero_le _, Nat.zero_le _⟩ d_MO_parameter_83 ?_
              have f0_83 := fm_AT_lt (fm_RB_lt g) 9 0 0
              refine lv_ior hx hb d_MO_parameter_86 ?_
              refine lv_istore_n (lv' := [(2, .int ((nI (0) <<< (nI (8) &&& 31)) ||| nI (fm_AT (fm_RB g) 9 0 0))), (3, .int (nI (0))), (0, .ref h), (1, .int (nI (i)))]) hx hb d_MO_parameter_87 rfl hl (by decide) rfl (fun ls hl => ?_)
              refine lv_iinc (v := nI (1)) (lv' := [(3, .int (nI (1))), (2, .int ((nI (0) <<< (nI (8) &&& 31)) ||| nI (fm_AT (fm_RB g) 9 0 0))), (0, .ref h), (1, .int (nI (i)))]) hx hb d_MO_parameter_88 hl (k := 1) rfl (nI_1 0) (by decide) rfl (fun ls hl => ?_)
              refine lv_goto (tgt := 66) hx hb d_MO_parameter_91 (by decide) ?_
              refine lv_iload_n hx hb d_MO_parameter_66 rfl (lv_at hl 0 rfl) ?_
              refine lv_iconst (v := nI (4)) hx hb d_MO_parameter_67 (by decide) ?_
              refine lv_icmp_ge (tgt := 94) hx hb d_MO_parameter_68 (by decide) (fun c0 => ?_) (fun c0 => ?_)
              · have c_68 : 4 ≤ 1 := (nI_leI (a := 4) (b := 1) (by omega) (by omega)).mp c0
                exact absurd c_68 (by decide)
              · have c_68 : ¬ (4 ≤ 1) := fun z => c0 ((nI_leI (a := 4) (b := 1) (by omega) (by omega)).mpr z)
                refine lv_iload_n hx hb d_MO_parameter_71 rfl (lv_at hl 1 rfl) ?_
                refine lv_bipush (v := nI (8)) hx hb d_MO_parameter_72 (by decide) ?_
                refine lv_ishl hx hb d_MO_parameter_74 ?_
                refine lv_aload_n hx hb d_MO_parameter_75 rfl (lv_at hl 2 rfl) ?_
                refine va_get (D := (dC, dI)) (ci := 4) (v := .ref ga) (C := R_MO) (T := F_MO) (N := 11) hx hb ht i_MO hown hK hP 0 rfl rfl 3 (by decide) (ht _ q_3_116) (fun _ h9 => h9) rfl d_MO_parameter_76 ?_
                refine lv_bipush (v := nI (9)) hx hb d_MO_parameter_79 (by decide) ?_
                refine lv_iconst (v := nI (0)) hx hb d_MO_parameter_81 (by decide) ?_
                refine lv_iload_n hx hb d_MO_parameter_82 rfl (lv_at hl 0 rfl) ?_
                refine fm_cs S (c_MO_at l dC dI ga cB g 9 0 1 (by omega) (hq) (by omega) (by omega)) rfl rfl k_MO_at q_3_184 ⟨Nat.le_of_ble_eq_true rfl, Nat.le_of_ble_eq_true rfl⟩ (hP.sub [1] rfl) (hK.sub [0] rfl) rfl hl.1 rfl (Nat.le_of_ble_eq_true rfl) ⟨Nat.zero_le _, Nat.zero_le _⟩ d_MO_parameter_83 ?_
                have f0_83 := fm_AT_lt (fm_RB_lt g) 9 0 1
                refine lv_ior hx hb d_MO_parameter_86 ?_
                refine lv_istore_n (lv' := [(2, .int ((((nI (0) <<< (nI (8) &&& 31)) ||| nI (fm_AT (fm_RB g) 9 0 0)) <<< (nI (8) &&& 31)) ||| nI (fm_AT (fm_RB g) 9 0 1))), (3, .int (nI (1))), (0, .ref h), (1, .int (nI (i)))]) hx hb d_MO_parameter_87 rfl hl (by decide) rfl (fun ls hl => ?_)
                refine lv_iinc (v := nI (2)) (lv' := [(3, .int (nI (2))), (2, .int ((((nI (0) <<< (nI (8) &&& 31)) ||| nI (fm_AT (fm_RB g) 9 0 0)) <<< (nI (8) &&& 31)) ||| nI (fm_AT (fm_RB g) 9 0 1))), (0, .ref h), (1, .int (nI (i)))]) hx hb d_MO_parameter_88 hl (k := 1) rfl (nI_1 1) (by decide) rfl (fun ls hl => ?_)
                refine lv_goto (tgt := 66) hx hb d_MO_parameter_91 (by decide) ?_
                refine lv_iload_n hx hb d_MO_parameter_66 rfl (lv_at hl 0 rfl) ?_
                refine lv_iconst (v := nI (4)) hx hb d_MO_parameter_67 (by decide) ?_
                refine lv_icmp_ge (tgt := 94) hx hb d_MO_parameter_68 (by decide) (fun c0 => ?_) (fun c0 => ?_)
                · have c_68 : 4 ≤ 2 := (nI_leI (a := 4) (b := 2) (by omega) (by omega)).mp c0
                  exact absurd c_68 (by decide)
                · have c_68 : ¬ (4 ≤ 2) := fun z => c0 ((nI_leI (a := 4) (b := 2) (by omega) (by omega)).mpr z)
                  refine lv_iload_n hx hb d_MO_parameter_71 rfl (lv_at hl 1 rfl) ?_
                  refine lv_bipush (v := nI (8)) hx hb d_MO_parameter_72 (by decide) ?_
                  refine lv_ishl hx hb d_MO_parameter_74 ?_
                  refine lv_aload_n hx hb d_MO_parameter_75 rfl (lv_at hl 2 rfl) ?_
                  refine va_get (D := (dC, dI)) (ci := 4) (v := .ref ga) (C := R_MO) (T := F_MO) (N := 11) hx hb ht i_MO hown hK hP 0 rfl rfl 3 (by decide) (ht _ q_3_116) (fun _ h9 => h9) rfl d_MO_parameter_76 ?_
                  refine lv_bipush (v := nI (9)) hx hb d_MO_parameter_79 (by decide) ?_
                  refine lv_iconst (v := nI (0)) hx hb d_MO_parameter_81 (by decide) ?_
                  refine lv_iload_n hx hb d_MO_parameter_82 rfl (lv_at hl 0 rfl) ?_
                  refine fm_cs S (c_MO_at l dC dI ga cB g 9 0 2 (by omega) (hq) (by omega) (by omega)) rfl rfl k_MO_at q_3_184 ⟨Nat.le_of_ble_eq_true rfl, Nat.le_of_ble_eq_true rfl⟩ (hP.sub [1] rfl) (hK.sub [0] rfl) rfl hl.1 rfl (Nat.le_of_ble_eq_true rfl) ⟨Nat.zero_le _, Nat.zero_le _⟩ d_MO_parameter_83 ?_
                  have f0_83 := fm_AT_lt (fm_RB_lt g) 9 0 2
                  refine lv_ior hx hb d_MO_parameter_86 ?_
                  refine lv_istore_n (lv' := [(2, .int ((((((nI (0) <<< (nI (8) &&& 31)) ||| nI (fm_AT (fm_RB g) 9 0 0)) <<< (nI (8) &&& 31)) ||| nI (fm_AT (fm_RB g) 9 0 1)) <<< (nI (8) &&& 31)) ||| nI (fm_AT (fm_RB g) 9 0 2))), (3, .int (nI (2))), (0, .ref h), (1, .int (nI (i)))]) hx hb d_MO_parameter_87 rfl hl (by decide) rfl (fun ls hl => ?_)
                  refine lv_iinc (v := nI (3)) (lv' := [(3, .int (nI (3))), (2, .int ((((((nI (0) <<< (nI (8) &&& 31)) ||| nI (fm_AT (fm_RB g) 9 0 0)) <<< (nI (8) &&& 31)) ||| nI (fm_AT (fm_RB g) 9 0 1)) <<< (nI (8) &&& 31)) ||| nI (fm_AT (fm_RB g) 9 0 2))), (0, .ref h), (1, .int (nI (i)))]) hx hb d_MO_parameter_88 hl (k := 1) rfl (nI_1 2) (by decide) rfl (fun ls hl => ?_)
                  refine lv_goto (tgt := 66) hx hb d_MO_parameter_91 (by decide) ?_
                  refine lv_iload_n hx hb d_MO_parameter_66 rfl (lv_at hl 0 rfl) ?_
                  refine lv_iconst (v := nI (4)) hx hb d_MO_parameter_67 (by decide) ?_
                  refine lv_icmp_ge (tgt := 94) hx hb d_MO_parameter_68 (by decide) (fun c0 => ?_) (fun c0 => ?_)
                  · have c_68 : 4 ≤ 3 := (nI_leI (a := 4) (b := 3) (by omega) (by omega)).mp c0
                    exact absurd c_68 (by decide)
                  · have c_68 : ¬ (4 ≤ 3) := fun z => c0 ((nI_leI (a := 4) (b := 3) (by omega) (by omega)).mpr z)
                    refine lv_iload_n hx hb d_MO_parameter_71 rfl (lv_at hl 1 rfl) ?_
                    refine lv_bipush (v := nI (8)) hx hb d_MO_parameter_72 (by decide) ?_
                    refine lv_ishl hx hb d_MO_parameter_74 ?_
                    refine lv_aload_n hx hb d_MO_parameter_75 rfl (lv_at hl 2 rfl) ?_
                    refine va_get (D := (dC, dI)) (ci := 4) (v := .ref ga) (C := R_MO) (T := F_MO) (N := 11) hx hb ht i_MO hown hK hP 0 rfl rfl 3 (by decide) (ht _ q_3_116) (fun _ h9 => h9) rfl d_MO_parameter_76 ?_
                    refine lv_bipush (v := nI (9)) hx hb d_MO_parameter_79 (by decide) ?_
                    refine lv_iconst (v := nI (0)) hx hb d_MO_parameter_81 (by decide) ?_
                    refine lv_iload_n hx hb d_MO_parameter_82 rfl (lv_at hl 0 rfl) ?_
                    refine fm_cs S (c_MO_at l dC dI ga cB g 9 0 3 (by omega) (hq) (by omega) (by omega)) rfl rfl k_MO_at q_3_184 ⟨Nat.le_of_ble_eq_true rfl, Nat.le_of_ble_eq_true rfl⟩ (hP.sub [1] rfl) (hK.sub [0] rfl) rfl hl.1 rfl (Nat.le_of_ble_eq_true rfl) ⟨Nat.zero_le _, Nat.zero_le _⟩ d_MO_parameter_83 ?_
                    have f0_83 := fm_AT_lt (fm_RB_lt g) 9 0 3
                    refine lv_ior hx hb d_MO_parameter_86 ?_
                    refine lv_istore_n (lv' := [(2, .int ((((((((nI (0) <<< (nI (8) &&& 31)) ||| nI (fm_AT (fm_RB g) 9 0 0)) <<< (nI (8) &&& 31)) ||| nI (fm_AT (fm_RB g) 9 0 1)) <<< (nI (8) &&& 31)) ||| nI (fm_AT (fm_RB g) 9 0 2)) <<< (nI (8) &&& 31)) ||| nI (fm_AT (fm_RB g) 9 0 3))), (3, .int (nI (3))), (0, .ref h), (1, .int (nI (i)))]) hx hb d_MO_parameter_87 rfl hl (by decide) rfl (fun ls hl => ?_)
                    refine lv_iinc (v := nI (4)) (lv' := [(3, .int (nI (4))), (2, .int ((((((((nI (0) <<< (nI (8) &&& 31)) ||| nI (fm_AT (fm_RB g) 9 0 0)) <<< (nI (8) &&& 31)) ||| nI (fm_AT (fm_RB g) 9 0 1)) <<< (nI (8) &&& 31)) ||| nI (fm_AT (fm_RB g) 9 0 2)) <<< (nI (8) &&& 31)) ||| nI (fm_AT (fm_RB g) 9 0 3))), (0, .ref h), (1, .int (nI (i)))]) hx hb d_MO_parameter_88 hl (k := 1) rfl (nI_1 3) (by decide) rfl (fun ls hl => ?_)
                    refine lv_goto (tgt := 66) hx hb d_MO_parameter_91 (by decide) ?_
                    refine lv_iload_n hx hb d_MO_parameter_66 rfl (lv_at hl 0 rfl) ?_
                    refine lv_iconst (v := nI (4)) hx hb d_MO_parameter_67 (by decide) ?_
                    refine lv_icmp_ge (tgt := 94) hx hb d_MO_parameter_68 (by decide) (fun c0 => ?_) (fun c0 => ?_)
                    · have c_68 : 4 ≤ 4 := (nI_leI (a := 4) (b := 4) (by omega) (by omega)).mp c0
                      refine lv_iload_n hx hb d_MO_parameter_94 rfl (lv_at hl 1 rfl) ?_
                      refine lv_iconst (v := nI (4)) hx hb d_MO_parameter_95 (by decide) ?_
                      refine lv_ishr hx hb d_MO_parameter_96 ?_
                      exact W.iret hx hb hr (fun t ht hW => ⟨congrArg (fun z => Outcome.returned (some (Value.int z))) (by rw [fm_par, if_neg (by omega), fm_W, ← show _ = nI (fm_WO (fm_RB g) (fm_ST (fm_RB g) 9 + 0)) from fm_four (fm_RB_lt g _) (fm_RB_lt g _) (fm_RB_lt g _) (fm_RB_lt g _)]; rfl), by rw [ht]; exact hP, hS.F ht⟩) hS.2.2 d_MO_parameter_97
                    · have c_68 : ¬ (4 ≤ 4) := fun z => c0 ((nI_leI (a := 4) (b := 4) (by omega) (by omega)).mpr z)
                      exact absurd c_68 (by decide)
          · have c_49 : ¬ (i ≤ 1) := fun z => c0 ((nI_leI (a := i) (b := 1) (by omega) (by omega)).mpr z)
            refine lv_aload_n hx hb d_MO_parameter_52 rfl (lv_at hl 0 rfl) ?_
            refine lv_bipush (v := nI (9)) hx hb d_MO_parameter_53 (by decide) ?_
            refine lv_iload_n hx hb d_MO_parameter_55 rfl (lv_at hl 1 rfl) ?_
            refine lv_iconst (v := nI (1)) hx hb d_MO_parameter_56 (by decide) ?_
            refine lv_isub hx hb d_MO_parameter_57 ?_
            refine fm_tw (z := nI (i - 1)) (pk_sub (by omega)) ?_
            refine fm_cv S (c_MO_scaled l dC dI h (nI (0)) fa n0 ga (nI (1)) s0 ra rz ka wa ct cB g 9 (i - 1) (hL) (hs) (by omega) (by omega)) rfl rfl k_MO_scaled q_4_6 ⟨Nat.le_of_ble_eq_true rfl, Nat.le_of_ble_eq_true rfl⟩ (hP.sub [0, 1] rfl) (hK.sub [0] rfl) 0 rfl rfl rfl hl.1 rfl (Nat.le_of_ble_eq_true rfl) ⟨Nat.zero_le _, Nat.zero_le _⟩ d_MO_parameter_58 ?_
            exact W.iret hx hb hr (fun t ht hW => ⟨congrArg (fun z => Outcome.returned (some (Value.int z))) (by rw [fm_par, if_pos (by omega)]), by rw [ht]; exact hP, hS.F ht⟩) hS.2.2 d_MO_parameter_61
        · have c_42 : ¬ (0 ≤ 0) := fun z => c0 ((nI_leI (a := 0) (b := 0) (by omega) (by omega)).mpr z)
          exact absurd c_42 (by decide)
      · have c_27 : ¬ (i ≤ fm_WD (fm_RB g) 9) := fun z => c0 ((nI_leI (a := i) (b := fm_WD (fm_RB g) 9) (by omega) (by omega)).mpr z)
        exact absurd hi2 c_27
  · have c_5 : 1 = 0 := (nI_eq (a := 1) (b := 0) (by omega) (by omega)).mp c0
    exact absurd c_5 (by decide)
theorem d_MO_ask_0 : decode b_MO_ask 0 = .ok (.aload_n 0, 1) := by decide +kernel
theorem d_MO_ask_1 : decode b_MO_ask 1 = .ok (.aload_n 0, 1) := by decide +kernel
theorem d_MO_ask_2 : decode b_MO_ask 2 = .ok (.getfield 103, 3) := by decide +kernel
theorem d_MO_ask_5 : decode b_MO_ask 5 = .ok (.ifCond .ne 7, 3) := by decide +kernel
theorem d_MO_ask_8 : decode b_MO_ask 8 = .ok (.iconst 1, 1) := by decide +kernel
theorem d_MO_ask_9 : decode b_MO_ask 9 = .ok (.goto 24, 3) := by decide +kernel
theorem d_MO_ask_12 : decode b_MO_ask 12 = .ok (.aload_n 0, 1) := by decide +kernel
theorem d_MO_ask_13 : decode b_MO_ask 13 = .ok (.iload_n 1, 1) := by decide +kernel
theorem d_MO_ask_14 : decode b_MO_ask 14 = .ok (.invokevirtual 131, 3) := by decide +kernel
theorem d_MO_ask_17 : decode b_MO_ask 17 = .ok (.ifCond .eq 11, 3) := by decide +kernel
theorem d_MO_ask_20 : decode b_MO_ask 20 = .ok (.aload_n 0, 1) := by decide +kernel
theorem d_MO_ask_21 : decode b_MO_ask 21 = .ok (.iload_n 2, 1) := by decide +kernel
theorem d_MO_ask_22 : decode b_MO_ask 22 = .ok (.invokevirtual 131, 3) := by decide +kernel
theorem d_MO_ask_25 : decode b_MO_ask 25 = .ok (.ifCond .ne 7, 3) := by decide +kernel
theorem d_MO_ask_28 : decode b_MO_ask 28 = .ok (.iconst 2, 1) := by decide +kernel
theorem d_MO_ask_29 : decode b_MO_ask 29 = .ok (.goto 4, 3) := by decide +kernel
theorem d_MO_ask_32 : decode b_MO_ask 32 = .ok (.iconst 0, 1) := by decide +kernel
theorem d_MO_ask_33 : decode b_MO_ask 33 = .ok (.putfield 26, 3) := by decide +kernel
theorem d_MO_ask_36 : decode b_MO_ask 36 = .ok (.aload_n 0, 1) := by decide +kernel
theorem d_MO_ask_37 : decode b_MO_ask 37 = .ok (.getfield 26, 3) := by decide +kernel
theorem d_MO_ask_40 : decode b_MO_ask 40 = .ok (.ifCond .le 5, 3) := by decide +kernel
theorem d_MO_ask_43 : decode b_MO_ask 43 = .ok (.iconst 0, 1) := by decide +kernel
theorem d_MO_ask_44 : decode b_MO_ask 44 = .ok (.ireturn, 1) := by decide +kernel
theorem d_MO_ask_45 : decode b_MO_ask 45 = .ok (.aload_n 0, 1) := by decide +kernel
theorem d_MO_ask_46 : decode b_MO_ask 46 = .ok (.iload_n 1, 1) := by decide +kernel
theorem d_MO_ask_47 : decode b_MO_ask 47 = .ok (.iload_n 2, 1) := by decide +kernel
theorem d_MO_ask_48 : decode b_MO_ask 48 = .ok (.invokevirtual 135, 3) := by decide +kernel
theorem d_MO_ask_51 : decode b_MO_ask 51 = .ok (.istore_n 3, 1) := by decide +kernel
theorem d_MO_ask_52 : decode b_MO_ask 52 = .ok (.iload_n 3, 1) := by decide +kernel
theorem d_MO_ask_53 : decode b_MO_ask 53 = .ok (.ifCond .ge 7, 3) := by decide +kernel
theorem d_MO_ask_56 : decode b_MO_ask 56 = .ok (.iconst (-1), 1) := by decide +kernel
theorem d_MO_ask_57 : decode b_MO_ask 57 = .ok (.goto 11, 3) := by decide +kernel
theorem d_MO_ask_60 : decode b_MO_ask 60 = .ok (.aload_n 0, 1) := by decide +kernel
theorem d_MO_ask_61 : decode b_MO_ask 61 = .ok (.getfield 13, 3) := by decide +kernel
theorem d_MO_ask_64 : decode b_MO_ask 64 = .ok (.iload_n 3, 1) := by decide +kernel
theorem d_MO_ask_65 : decode b_MO_ask 65 = .ok (.invokestatic 47, 3) := by decide +kernel
theorem d_MO_ask_68 : decode b_MO_ask 68 = .ok (.ireturn, 1) := by decide +kernel
set_option maxHeartbeats 4000000 in
set_option maxRecDepth 100000 in
theorem c_MO_askU (l : Launch) (dC : Nat → ClassId) (dI : Nat → Nat → Nat) (h : Nat) (th : Int32) (fa : Nat) (n0 : Int32) (ga : Nat) (sz : Int32) (ra : Nat) (rz : Int32) (ka : Nat) (wa : Nat) (ct : Int32) (x : Int32) (y : Int32)  : fm_MW l (dC, dI) y_MO_ask w_MO_ask ({ frames := 0, cells := 0, slots := 0, locals := 0 }) [.ref h, .int (x), .int (y)] [(h, .inr (4, [.int (th), .ref fa, .int (n0), .ref ga, .int (nI (0)), .int (sz), .ref ra, .int (rz), .ref ka, .ref wa, .int (ct)]))] [(h, .inr (4, [.int (nI (1)), .ref fa, .int (n0), .ref ga, .int (nI (0)), .int (sz), .ref ra, .int (rz), .ref ka, .ref wa, .int (ct)]))] [] (some (.int (nI (0)))) := by
  refine Met.ofW (cc := b_MO_ask) (maxL := 4) (ret := (some .int)) (by decide) rfl ?_
  intro pg ev s m args below meth cd s₁ BD hml hv
  obtain ⟨rfl, hP, hK, hD0⟩ := hv
  have hx := BD.exec
  have hb := BD.bytes
  have hr := BD.returns
  have hts := atoms_spec (ws := w_MO_ask) BD.pre
  have ht : ∀ w ∈ fm_T, w.before _ s = true := fun w h => hts w (List.mem_cons_of_mem _ h)
  have hown : s.vm.findClass R_MO = some m.cls := findClass_of_methodNamed BD.named
  have hlocks := BD.notSynchronized
  have S : CallFix pg m cd b_MO_ask 4 s _ w_MO_ask R_MO := ⟨hx, hb, hml, hown, hts⟩
  have hD := fm_selfD hD0
  generalize fm_A [(h, .inr (4, [.int (th), .ref fa, .int (n0), .ref ga, .int (nI (0)), .int (sz), .ref ra, .int (rz), .ref ka, .ref wa, .int (ct)]))] = A at hD ⊢
  have hS : va_S A s.heap s.heap [] := va_S.rf
  have hl := lv_entry ([.ref h, .int (x), .int (y)]) (n := 4) (Nat.le_of_ble_eq_true rfl)
  rw [lg_entry_eq]
  generalize (lg_sl ([.ref h, .int (x), .int (y)]) ++ List.replicate (4 - (lg_sl ([.ref h, .int (x), .int (y)])).length) Slot.unset).toArray = ls at hl ⊢
  have hl : lv_has ls 4 [(0, .ref h), (1, .int (x)), (2, .int (y))] := hl
  refine lv_aload_n hx hb d_MO_ask_0 rfl (lv_at hl 0 rfl) ?_
  refine lv_aload_n hx hb d_MO_ask_1 rfl (lv_at hl 0 rfl) ?_
  refine va_get (D := (dC, dI)) (ci := 4) (v := .int (nI (0))) (C := R_MO) (T := F_MO) (N := 11) hx hb ht i_MO hown hK hP 0 rfl rfl 4 (by decide) (ht _ q_3_117) (fun _ h9 => h9) rfl d_MO_ask_2 ?_
  refine lv_if_ne (tgt := 12) hx hb d_MO_ask_5 (by decide) (fun c0 => ?_) (fun c0 => ?_)
  · have c_5 : ¬ (0 = 0) := fun z => c0 ((nI_eq (a := 0) (b := 0) (by omega) (by omega)).mpr z)
    exact absurd c_5 (by decide)
  · have c_5 : 0 = 0 := (nI_eq (a := 0) (b := 0) (by omega) (by omega)).mp c0
    refine lv_iconst (v := nI (1)) hx hb d_MO_ask_8 (by decide) ?_
    refine lv_goto (tgt := 33) hx hb d_MO_ask_9 (by decide) ?_
    refine va_put (D := (dC, dI)) (ci := 4) (v := .int (nI (1))) (ty := .int) (C := R_MO) (T := F_MO) (N := 11) hx hb ht i_MO t_MO t_MO_ok n_MO hown hK hP hD hS 0 rfl rfl 0 (by decide) (ht _ q_3_113) (fun _ h9 => h9) rfl (by decide +kernel) (rfl) (rfl) (Nat.le_of_ble_eq_true rfl) d_MO_ask_33 (fun H locs hP hD hS => ?_)
    have hP : va_P (dC, dI) classes [(h, .inr (4, [.int (nI (1)), .ref fa, .int (n0), .ref ga, .int (nI (0)), .int (sz), .ref ra, .int (rz), .ref ka, .ref wa, .int (ct)]))] _ := hP
    have hD : va_D A [(h, .inr (4, [.int (nI (1)), .ref fa, .int (n0), .ref ga, .int (nI (0)), .int (sz), .ref ra, .int (rz), .ref ka, .ref wa, .int (ct)]))] := hD
    refine lv_aload_n hx hb d_MO_ask_36 rfl (lv_at hl 0 rfl) ?_
    refine va_get (D := (dC, dI)) (ci := 4) (v := .int (nI (1))) (C := R_MO) (T := F_MO) (N := 11) hx hb ht i_MO hown hK hP 0 rfl rfl 0 (by decide) (ht _ q_3_113) (fun _ h9 => h9) rfl d_MO_ask_37 ?_
    refine lv_if_le (tgt := 45) hx hb d_MO_ask_40 (by decide) (fun c0 => ?_) (fun c0 => ?_)
    · have c_40 : 1 ≤ 0 := (nI_leI (a := 1) (b := 0) (by omega) (by omega)).mp c0
      exact absurd c_40 (by decide)
    · have c_40 : ¬ (1 ≤ 0) := fun z => c0 ((nI_leI (a := 1) (b := 0) (by omega) (by omega)).mpr z)
      refine lv_iconst (v := nI (0)) hx hb d_MO_ask_43 (by decide) ?_
      exact W.iret hx hb hr (fun t ht hW => ⟨congrArg (fun z => Outcome.returned (some (Value.int z))) (rfl), by rw [ht]; exact hP, hS.F ht⟩) hS.2.2 d_MO_ask_44
set_option maxHeartbeats 4000000 in
set_option maxRecDepth 100000 in
theorem c_MO_askN (l : Launch) (dC : Nat → ClassId) (dI : Nat → Nat → Nat) (h : Nat) (th : Int32) (fa : Nat) (n0 : Int32) (ga : Nat) (ra : Nat) (rz : Int32) (ka : Nat) (wa : Nat) (ct : Int32) (s0 : Nat) (cB : ClassId) (g : Nat → Int32) (x : Int32) (y : Int32) (hL : fm_Len (fm_RB g)) (hno : (decide (x = nI 256) || fm_thI (fm_RB g) x) = false ∨ (decide (y = nI 256) || fm_thI (fm_RB g) y) = false) : fm_MW l (dC, dI) y_MO_ask w_MO_ask ({ frames := 6, cells := 0, slots := 0, locals := 130 }) [.ref h, .int (x), .int (y)] [(h, .inr (4, [.int (th), .ref fa, .int (n0), .ref ga, .int (nI (1)), .int (nI (s0)), .ref ra, .int (rz), .ref ka, .ref wa, .int (ct)])), (ga, .inl (cB, 8192, .inl (g)))] [(h, .inr (4, [.int (nI (2)), .ref fa, .int (n0), .ref ga, .int (nI (1)), .int (nI (s0)), .ref ra, .int (rz), .ref ka, .ref wa, .int (ct)])), (ga, .inl (cB, 8192, .inl (g)))] [(cB, .byte)] (some (.int (nI (0)))) := by
  refine Met.ofW (cc := b_MO_ask) (maxL := 4) (ret := (some .int)) (by decide) rfl ?_
  intro pg ev s m args below meth cd s₁ BD hml hv
  obtain ⟨rfl, hP, hK, hD0⟩ := hv
  have hx := BD.exec
  have hb := BD.bytes
  have hr := BD.returns
  have hts := atoms_spec (ws := w_MO_ask) BD.pre
  have ht : ∀ w ∈ fm_T, w.before _ s = true := fun w h => hts w (List.mem_cons_of_mem _ h)
  have hown : s.vm.findClass R_MO = some m.cls := findClass_of_methodNamed BD.named
  have hlocks := BD.notSynchronized
  have S : CallFix pg m cd b_MO_ask 4 s _ w_MO_ask R_MO := ⟨hx, hb, hml, hown, hts⟩
  have hD := fm_selfD hD0
  generalize fm_A [(h, .inr (4, [.int (th), .ref fa, .int (n0), .ref ga, .int (nI (1)), .int (nI (s0)), .ref ra, .int (rz), .ref ka, .ref wa, .int (ct)])), (ga, .inl (cB, 8192, .inl (g)))] = A at hD ⊢
  have hS : va_S A s.heap s.heap [] := va_S.rf
  have hl := lv_entry ([.ref h, .int (x), .int (y)]) (n := 4) (Nat.le_of_ble_eq_true rfl)
  rw [lg_entry_eq]
  generalize (lg_sl ([.ref h, .int (x), .int (y)]) ++ List.replicate (4 - (lg_sl ([.ref h, .int (x), .int (y)])).length) Slot.unset).toArray = ls at hl ⊢
  have hl : lv_has ls 4 [(0, .ref h), (1, .int (x)), (2, .int (y))] := hl
  obtain ⟨-, hq, h3, h10⟩ := id hL
  refine lv_aload_n hx hb d_MO_ask_0 rfl (lv_at hl 0 rfl) ?_
  refine lv_aload_n hx hb d_MO_ask_1 rfl (lv_at hl 0 rfl) ?_
  refine va_get (D := (dC, dI)) (ci := 4) (v := .int (nI (1))) (C := R_MO) (T := F_MO) (N := 11) hx hb ht i_MO hown hK hP 0 rfl rfl 4 (by decide) (ht _ q_3_117) (fun _ h9 => h9) rfl d_MO_ask_2 ?_
  refine lv_if_ne (tgt := 12) hx hb d_MO_ask_5 (by decide) (fun c0 => ?_) (fun c0 => ?_)
  · have c_5 : ¬ (1 = 0) := fun z => c0 ((nI_eq (a := 1) (b := 0) (by omega) (by omega)).mpr z)
    refine lv_aload_n hx hb d_MO_ask_12 rfl (lv_at hl 0 rfl) ?_
    refine lv_iload_n hx hb d_MO_ask_13 rfl (lv_at hl 1 rfl) ?_
    refine fm_cv S (c_MO_mayAsk l dC dI h th fa n0 ga (nI (1)) (nI (s0)) ra rz ka wa ct cB g x (hL)) rfl rfl k_MO_mayAsk q_4_26 ⟨Nat.le_of_ble_eq_true rfl, Nat.le_of_ble_eq_true rfl⟩ (hP.sub [0, 1] rfl) (hK.sub [0] rfl) 0 rfl rfl rfl hl.1 rfl (Nat.le_of_ble_eq_true rfl) ⟨Nat.zero_le _, Nat.zero_le _⟩ d_MO_ask_14 ?_
    refine lv_if_eq (tgt := 28) hx hb d_MO_ask_17 (by decide) (fun c0 => ?_) (fun c0 => ?_)
    · have c_17 : (decide (x = nI 256) || fm_thI (fm_RB g) x) = false := fm_bI_f c0
      refine lv_iconst (v := nI (2)) hx hb d_MO_ask_28 (by decide) ?_
      refine lv_goto (tgt := 33) hx hb d_MO_ask_29 (by decide) ?_
      refine va_put (D := (dC, dI)) (ci := 4) (v := .int (nI (2))) (ty := .int) (C := R_MO) (T := F_MO) (N := 11) hx hb ht i_MO t_MO t_MO_ok n_MO hown hK hP hD hS 0 rfl rfl 0 (by decide) (ht _ q_3_113) (fun _ h9 => h9) rfl (by decide +kernel) (rfl) (rfl) (Nat.le_of_ble_eq_true rfl) d_MO_ask_33 (fun H locs hP hD hS => ?_)
      have hP : va_P (dC, dI) classes [(h, .inr (4, [.int (nI (2)), .ref fa, .int (n0), .ref ga, .int (nI (1)), .int (nI (s0)), .ref ra, .int (rz), .ref ka, .ref wa, .int (ct)])), (ga, .inl (cB, 8192, .inl (g)))] _ := hP
      have hD : va_D A [(h, .inr (4, [.int (nI (2)), .ref fa, .int (n0), .ref ga, .int (nI (1)), .int (nI (s0)), .ref ra, .int (rz), .ref ka, .ref wa, .int (ct)])), (ga, .inl (cB, 8192, .inl (g)))] := hD
      refine lv_aload_n hx hb d_MO_ask_36 rfl (lv_at hl 0 rfl) ?_
      refine va_get (D := (dC, dI)) (ci := 4) (v := .int (nI (2))) (C := R_MO) (T := F_MO) (N := 11) hx hb ht i_MO hown hK hP 0 rfl rfl 0 (by decide) (ht _ q_3_113) (fun _ h9 => h9) rfl d_MO_ask_37 ?_
      refine lv_if_le (tgt := 45) hx hb d_MO_ask_40 (by decide) (fun c0 => ?_) (fun c0 => ?_)
      · have c_40 : 2 ≤ 0 := (nI_leI (a := 2) (b := 0) (by omega) (by omega)).mp c0
        exact absurd c_40 (by decide)
      · have c_40 : ¬ (2 ≤ 0) := fun z => c0 ((nI_leI (a := 2) (b := 0) (by omega) (by omega)).mpr z)
        refine lv_iconst (v := nI (0)) hx hb d_MO_ask_43 (by decide) ?_
        exact W.iret hx hb hr (fun t ht hW => ⟨congrArg (fun z => Outcome.returned (some (Value.int z))) (rfl), by rw [ht]; exact hP, hS.F ht⟩) hS.2.2 d_MO_ask_44
    · have c_17 : (decide (x = nI 256) || fm_thI (fm_RB g) x) = true := fm_bI_t c0
      refine lv_aload_n hx hb d_MO_ask_20 rfl (lv_at hl 0 rfl) ?_
      refine lv_iload_n hx hb d_MO_ask_21 rfl (lv_at hl 2 rfl) ?_
      refine fm_cv S (c_MO_mayAsk l dC dI h th fa n0 ga (nI (1)) (nI (s0)) ra rz ka wa ct cB g y (hL)) rfl rfl k_MO_mayAsk q_4_26 ⟨Nat.le_of_ble_eq_true rfl, Nat.le_of_ble_eq_true rfl⟩ (hP.sub [0, 1] rfl) (hK.sub [0] rfl) 0 rfl rfl rfl hl.1 rfl (Nat.le_of_ble_eq_true rfl) ⟨Nat.zero_le _, Nat.zero_le _⟩ d_MO_ask_22 ?_
      refine lv_if_ne (tgt := 32) hx hb d_MO_ask_25 (by decide) (fun c0 => ?_) (fun c0 => ?_)
      · have c_25 : (decide (y = nI 256) || fm_thI (fm_RB g) y) = true := fm_bI_t c0
        exact absurd (hno.resolve_left (by rw [c_17]; decide)) (by rw [c_25]; decide)
      · have c_25 : (decide (y = nI 256) || fm_thI (fm_RB g) y) = false := fm_bI_f c0
        refine lv_iconst (v := nI (2)) hx hb d_MO_ask_28 (by decide) ?_
        refine lv_goto (tgt := 33) hx hb d_MO_ask_29 (by decide) ?_
        refine va_put (D := (dC, dI)) (ci := 4) (v := .int (nI (2))) (ty := .int) (C := R_MO) (T := F_MO) (N := 11) hx hb ht i_MO t_MO t_MO_ok n_MO hown hK hP hD hS 0 rfl rfl 0 (by decide) (ht _ q_3_113) (fun _ h9 => h9) rfl (by decide +kernel) (rfl) (rfl) (Nat.le_of_ble_eq_true rfl) d_MO_ask_33 (fun H locs hP hD hS => ?_)
        have hP : va_P (dC, dI) classes [(h, .inr (4, [.int (nI (2)), .ref fa, .int (n0), .ref ga, .int (nI (1)), .int (nI (s0)), .ref ra, .int (rz), .ref ka, .ref wa, .int (ct)])), (ga, .inl (cB, 8192, .inl (g)))] _ := hP
        have hD : va_D A [(h, .inr (4, [.int (nI (2)), .ref fa, .int (n0), .ref ga, .int (nI (1)), .int (nI (s0)), .ref ra, .int (rz), .ref ka, .ref wa, .int (ct)])), (ga, .inl (cB, 8192, .inl (g)))] := hD
        refine lv_aload_n hx hb d_MO_ask_36 rfl (lv_at hl 0 rfl) ?_
        refine va_get (D := (dC, dI)) (ci := 4) (v := .int (nI (2))) (C := R_MO) (T := F_MO) (N := 11) hx hb ht i_MO hown hK hP 0 rfl rfl 0 (by decide) (ht _ q_3_113) (fun _ h9 => h9) rfl d_MO_ask_37 ?_
        refine lv_if_le (tgt := 45) hx hb d_MO_ask_40 (by decide) (fun c0 => ?_) (fun c0 => ?_)
        · have c_40 : 2 ≤ 0 := (nI_leI (a := 2) (b := 0) (by omega) (by omega)).mp c0
          exact absurd c_40 (by decide)
        · have c_40 : ¬ (2 ≤ 0) := fun z => c0 ((nI_leI (a := 2) (b := 0) (by omega) (by omega)).mpr z)
          refine lv_iconst (v := nI (0)) hx hb d_MO_ask_43 (by decide) ?_
          exact W.iret hx hb hr (fun t ht hW => ⟨congrArg (fun z => Outcome.returned (some (Value.int z))) (rfl), by rw [ht]; exact hP, hS.F ht⟩) hS.2.2 d_MO_ask_44
  · have c_5 : 1 = 0 := (nI_eq (a := 1) (b := 0) (by omega) (by omega)).mp c0
    exact absurd c_5 (by decide)
set_option maxHeartbeats 4000000 in
set_option maxRecDepth 100000 in
theorem c_MO_askY (l : Launch) (dC : Nat → ClassId) (dI : Nat → Nat → Nat) (h : Nat) (th : Int32) (fa : Nat) (n0 : Int32) (ga : Nat) (ra : Nat) (rz : Int32) (ka : Nat) (wa : Nat) (ct : Int32) (s0 : Nat) (cB : ClassId) (g : Nat → Int32) (c : Nat) (r : Nat) (hV : fm_V (fm_RB g)) (hxx : c = 256 ∨ fm_th (fm_RB g) c = true) (hrr : r = 256 ∨ fm_th (fm_RB g) r = true) : fm_MW l (dC, dI) y_MO_ask w_MO_ask ({ frames := 7, cells := 0, slots := 0, locals := 154 }) [.ref h, .int (nI (c)), .int (nI (r))] [(h, .inr (4, [.int (th), .ref fa, .int (n0), .ref ga, .int (nI (1)), .int (nI (s0)), .ref ra, .int (rz), .ref ka, .ref wa, .int (ct)])), (ga, .inl (cB, 8192, .inl (g)))] [(h, .inr (4, [.int (nI (0)), .ref fa, .int (n0), .ref ga, .int (nI (1)), .int (nI (s0)), .ref ra, .int (rz), .ref ka, .ref wa, .int (ct)])), (ga, .inl (cB, 8192, .inl (g)))] [(cB, .byte)] (some (.int (fm_say (fm_RB g) c r))) := by
  refine Met.ofW (cc := b_MO_ask) (maxL := 4) (ret := (some .int)) (by decide) rfl ?_
  intro pg ev s m args below meth cd s₁ BD hml hv
  obtain ⟨rfl, hP, hK, hD0⟩ := hv
  have hx := BD.exec
  have hb := BD.bytes
  have hr := BD.returns
  have hts := atoms_spec (ws := w_MO_ask) BD.pre
  have ht : ∀ w ∈ fm_T, w.before _ s = true := fun w h => hts w (List.mem_cons_of_mem _ h)
  have hown : s.vm.findClass R_MO = some m.cls := findClass_of_methodNamed BD.named
  have hlocks := BD.notSynchronized
  have S : CallFix pg m cd b_MO_ask 4 s _ w_MO_ask R_MO := ⟨hx, hb, hml, hown, hts⟩
  have hD := fm_selfD hD0
  generalize fm_A [(h, .inr (4, [.int (th), .ref fa, .int (n0), .ref ga, .int (nI (1)), .int (nI (s0)), .ref ra, .int (rz), .ref ka, .ref wa, .int (ct)])), (ga, .inl (cB, 8192, .inl (g)))] = A at hD ⊢
  have hS : va_S A s.heap s.heap [] := va_S.rf
  have hl := lv_entry ([.ref h, .int (nI (c)), .int (nI (r))]) (n := 4) (Nat.le_of_ble_eq_true rfl)
  rw [lg_entry_eq]
  generalize (lg_sl ([.ref h, .int (nI (c)), .int (nI (r))]) ++ List.replicate (4 - (lg_sl ([.ref h, .int (nI (c)), .int (nI (r))])).length) Slot.unset).toArray = ls at hl ⊢
  have hl : lv_has ls 4 [(0, .ref h), (1, .int (nI (c))), (2, .int (nI (r)))] := hl
  have hL := hV.1
  obtain ⟨-, hq, h3, h10⟩ := id hL
  have hc256 := fm_le256 hL hxx
  have hr256 := fm_le256 hL hrr
  have hm1 := fm_may hL hxx
  have hm2 := fm_may hL hrr
  refine lv_aload_n hx hb d_MO_ask_0 rfl (lv_at hl 0 rfl) ?_
  refine lv_aload_n hx hb d_MO_ask_1 rfl (lv_at hl 0 rfl) ?_
  refine va_get (D := (dC, dI)) (ci := 4) (v := .int (nI (1))) (C := R_MO) (T := F_MO) (N := 11) hx hb ht i_MO hown hK hP 0 rfl rfl 4 (by decide) (ht _ q_3_117) (fun _ h9 => h9) rfl d_MO_ask_2 ?_
  refine lv_if_ne (tgt := 12) hx hb d_MO_ask_5 (by decide) (fun c0 => ?_) (fun c0 => ?_)
  · have c_5 : ¬ (1 = 0) := fun z => c0 ((nI_eq (a := 1) (b := 0) (by omega) (by omega)).mpr z)
    refine lv_aload_n hx hb d_MO_ask_12 rfl (lv_at hl 0 rfl) ?_
    refine lv_iload_n hx hb d_MO_ask_13 rfl (lv_at hl 1 rfl) ?_
    refine fm_cv S (c_MO_mayAsk l dC dI h th fa n0 ga (nI (1)) (nI (s0)) ra rz ka wa ct cB g (nI (c)) (hL)) rfl rfl k_MO_mayAsk q_4_26 ⟨Nat.le_of_ble_eq_true rfl, Nat.le_of_ble_eq_true rfl⟩ (hP.sub [0, 1] rfl) (hK.sub [0] rfl) 0 rfl rfl rfl hl.1 rfl (Nat.le_of_ble_eq_true rfl) ⟨Nat.zero_le _, Nat.zero_le _⟩ d_MO_ask_14 ?_
    refine lv_if_eq (tgt := 28) hx hb d_MO_ask_17 (by decide) (fun c0 => ?_) (fun c0 => ?_)
    · have c_17 : (decide ((nI (c)) = nI 256) || fm_thI (fm_RB g) (nI (c))) = false := fm_bI_f c0
      exact absurd c_17 (by rw [hm1]; decide)
    · have c_17 : (decide ((nI (c)) = nI 256) || fm_thI (fm_RB g) (nI (c))) = true := fm_bI_t c0
      refine lv_aload_n hx hb d_MO_ask_20 rfl (lv_at hl 0 rfl) ?_
      refine lv_iload_n hx hb d_MO_ask_21 rfl (lv_at hl 2 rfl) ?_
      refine fm_cv S (c_MO_mayAsk l dC dI h th fa n0 ga (nI (1)) (nI (s0)) ra rz ka wa ct cB g (nI (r)) (hL)) rfl rfl k_MO_mayAsk q_4_26 ⟨Nat.le_of_ble_eq_true rfl, Nat.le_of_ble_eq_true rfl⟩ (hP.sub [0, 1] rfl) (hK.sub [0] rfl) 0 rfl rfl rfl hl.1 rfl (Nat.le_of_ble_eq_true rfl) ⟨Nat.zero_le _, Nat.zero_le _⟩ d_MO_ask_22 ?_
      refine lv_if_ne (tgt := 32) hx hb d_MO_ask_25 (by decide) (fun c0 => ?_) (fun c0 => ?_)
      · have c_25 : (decide ((nI (r)) = nI 256) || fm_thI (fm_RB g) (nI (r))) = true := fm_bI_t c0
        refine lv_iconst (v := nI (0)) hx hb d_MO_ask_32 (by decide) ?_
        refine va_put (D := (dC, dI)) (ci := 4) (v := .int (nI (0))) (ty := .int) (C := R_MO) (T := F_MO) (N := 11) hx hb ht i_MO t_MO t_MO_ok n_MO hown hK hP hD hS 0 rfl rfl 0 (by decide) (ht _ q_3_113) (fun _ h9 => h9) rfl (by decide +kernel) (rfl) (rfl) (Nat.le_of_ble_eq_true rfl) d_MO_ask_33 (fun H locs hP hD hS => ?_)
        have hP : va_P (dC, dI) classes [(h, .inr (4, [.int (nI (0)), .ref fa, .int (n0), .ref ga, .int (nI (1)), .int (nI (s0)), .ref ra, .int (rz), .ref ka, .ref wa, .int (ct)])), (ga, .inl (cB, 8192, .inl (g)))] _ := hP
        have hD : va_D A [(h, .inr (4, [.int (nI (0)), .ref fa, .int (n0), .ref ga, .int (nI (1)), .int (nI (s0)), .ref ra, .int (rz), .ref ka, .ref wa, .int (ct)])), (ga, .inl (cB, 8192, .inl (g)))] := hD
        refine lv_aload_n hx hb d_MO_ask_36 rfl (lv_at hl 0 rfl) ?_
        refine va_get (D := (dC, dI)) (ci := 4) (v := .int (nI (0))) (C := R_MO) (T := F_MO) (N := 11) hx hb ht i_MO hown hK hP 0 rfl rfl 0 (by decide) (ht _ q_3_113) (fun _ h9 => h9) rfl d_MO_ask_37 ?_
        refine lv_if_le (tgt := 45) hx hb d_MO_ask_40 (by decide) (fun c0 => ?_) (fun c0 => ?_)
        · have c_40 : 0 ≤ 0 := (nI_leI (a := 0) (b := 0) (by omega) (by omega)).mp c0
          refine lv_aload_n hx hb d_MO_ask_45 rfl (lv_at hl 0 rfl) ?_
          refine lv_iload_n hx hb d_MO_ask_46 rfl (lv_at hl 1 rfl) ?_
          refine lv_iload_n hx hb d_MO_ask_47 rfl (lv_at hl 2 rfl) ?_
          refine fm_cv S (c_MO_found l dC dI h (nI (0)) fa n0 ga (nI (1)) (nI (s0)) ra rz ka wa ct cB g c r (hV) (hxx) (by omega)) rfl rfl k_MO_found q_4_30 ⟨Nat.le_of_ble_eq_true rfl, Nat.le_of_ble_eq_true rfl⟩ (hP.sub [0, 1] rfl) (hK.sub [0] rfl) 0 rfl rfl rfl hl.1 rfl (Nat.le_of_ble_eq_true rfl) ⟨Nat.zero_le _, Nat.zero_le _⟩ d_MO_ask_48 ?_
          refine lv_istore_n (lv' := [(3, .int (fm_oI (fm_fd (fm_RB g) c r))), (0, .ref h), (1, .int (nI (c))), (2, .int (nI (r)))]) hx hb d_MO_ask_51 rfl hl (by decide) rfl (fun ls hl => ?_)
          refine lv_iload_n hx hb d_MO_ask_52 rfl (lv_at hl 0 rfl) ?_
          refine lv_if_ge (tgt := 60) hx hb d_MO_ask_53 (by decide) (fun c0 => ?_) (fun c0 => ?_)
          · have c_53 := c0
            obtain ⟨k, hk⟩ := fm_oI_ge (Int32.not_lt.mpr c_53)
            have hkw := fm_V_fd hV hxx hk
            have hin := fm_pin hL (by decide : 6 < 10) hkw
            have hl : lv_has ls 4 [(3, .int (nI (k))), (0, .ref h), (1, .int (nI (c))), (2, .int (nI (r)))] := by rw [show ((fm_oI (fm_fd (fm_RB g) c r)) : Int32) = nI (k) from by rw [hk]; rfl] at hl; exact hl
            refine lv_aload_n hx hb d_MO_ask_60 rfl (lv_at hl 1 rfl) ?_
            refine va_get (D := (dC, dI)) (ci := 4) (v := .ref ga) (C := R_MO) (T := F_MO) (N := 11) hx hb ht i_MO hown hK hP 0 rfl rfl 3 (by decide) (ht _ q_3_116) (fun _ h9 => h9) rfl d_MO_ask_61 ?_
            refine lv_iload_n hx hb d_MO_ask_64 rfl (lv_at hl 0 rfl) ?_
            refine fm_cs S (c_MO_far l dC dI ga cB g k (hq) (by omega)) rfl rfl k_MO_far q_3_218 ⟨Nat.le_of_ble_eq_true rfl, Nat.le_of_ble_eq_true rfl⟩ (hP.sub [1] rfl) (hK.sub [0] rfl) rfl hl.1 rfl (Nat.le_of_ble_eq_true rfl) ⟨Nat.zero_le _, Nat.zero_le _⟩ d_MO_ask_65 ?_
            have f0_65 := fm_FAR_lt (fm_RB_lt g) k
            exact W.iret hx hb hr (fun t ht hW => ⟨congrArg (fun z => Outcome.returned (some (Value.int z))) (by first | (rw [fm_say, hk]; rfl) | (rw [fm_say, hno]; rfl)), by rw [ht]; exact hP, hS.F ht⟩) hS.2.2 d_MO_ask_68
          · have c_53 := c0
            have hno := fm_oI_lt (N := 65537) (fun {k} hk => by have h5 := fm_V_fd hV hxx hk; have h6 := fm_WD_le (fm_RB_lt g) 6; exact ⟨by omega, by decide⟩) (Int32.not_le.mp c_53)
            refine lv_iconst (v := ((-1))) hx hb d_MO_ask_56 (by decide) ?_
            refine lv_goto (tgt := 68) hx hb d_MO_ask_57 (by decide) ?_
            exact W.iret hx hb hr (fun t ht hW => ⟨congrArg (fun z => Outcome.returned (some (Value.int z))) (by first | (rw [fm_say, hk]; rfl) | (rw [fm_say, hno]; rfl)), by rw [ht]; exact hP, hS.F ht⟩) hS.2.2 d_MO_ask_68
        · have c_40 : ¬ (0 ≤ 0) := fun z => c0 ((nI_leI (a := 0) (b := 0) (by omega) (by omega)).mpr z)
          exact absurd c_40 (by decide)
      · have c_25 : (decide ((nI (r)) = nI 256) || fm_thI (fm_RB g) (nI (r))) = false := fm_bI_f c0
        exact absurd c_25 (by rw [hm2]; decide)
  · have c_5 : 1 = 0 := (nI_eq (a := 1) (b := 0) (by omega) (by omega)).mp c0
    exact absurd c_5 (by decide)
