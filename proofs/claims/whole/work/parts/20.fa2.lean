theorem d_FA_leadsBack_0 : decode b_FA_leadsBack 0 = .ok (.iload_n 1, 1) := by decide +kernel
theorem d_FA_leadsBack_1 : decode b_FA_leadsBack 1 = .ok (.istore_n 2, 1) := by decide +kernel
theorem d_FA_leadsBack_2 : decode b_FA_leadsBack 2 = .ok (.iconst 0, 1) := by decide +kernel
theorem d_FA_leadsBack_3 : decode b_FA_leadsBack 3 = .ok (.istore_n 3, 1) := by decide +kernel
theorem d_FA_leadsBack_4 : decode b_FA_leadsBack 4 = .ok (.iload_n 3, 1) := by decide +kernel
theorem d_FA_leadsBack_5 : decode b_FA_leadsBack 5 = .ok (.sipush 256, 3) := by decide +kernel
theorem d_FA_leadsBack_8 : decode b_FA_leadsBack 8 = .ok (.if_icmp .ge 48, 3) := by decide +kernel
theorem d_FA_leadsBack_11 : decode b_FA_leadsBack 11 = .ok (.aload_n 0, 1) := by decide +kernel
theorem d_FA_leadsBack_12 : decode b_FA_leadsBack 12 = .ok (.iload_n 2, 1) := by decide +kernel
theorem d_FA_leadsBack_13 : decode b_FA_leadsBack 13 = .ok (.invokevirtual 79, 3) := by decide +kernel
theorem d_FA_leadsBack_16 : decode b_FA_leadsBack 16 = .ok (.istore 4, 2) := by decide +kernel
theorem d_FA_leadsBack_18 : decode b_FA_leadsBack 18 = .ok (.iload 4, 2) := by decide +kernel
theorem d_FA_leadsBack_20 : decode b_FA_leadsBack 20 = .ok (.invokestatic 60, 3) := by decide +kernel
theorem d_FA_leadsBack_23 : decode b_FA_leadsBack 23 = .ok (.ifCond .eq 12, 3) := by decide +kernel
theorem d_FA_leadsBack_26 : decode b_FA_leadsBack 26 = .ok (.iload 4, 2) := by decide +kernel
theorem d_FA_leadsBack_28 : decode b_FA_leadsBack 28 = .ok (.invokestatic 85, 3) := by decide +kernel
theorem d_FA_leadsBack_31 : decode b_FA_leadsBack 31 = .ok (.iconst 2, 1) := by decide +kernel
theorem d_FA_leadsBack_32 : decode b_FA_leadsBack 32 = .ok (.if_icmp .eq 5, 3) := by decide +kernel
theorem d_FA_leadsBack_35 : decode b_FA_leadsBack 35 = .ok (.iconst 0, 1) := by decide +kernel
theorem d_FA_leadsBack_36 : decode b_FA_leadsBack 36 = .ok (.ireturn, 1) := by decide +kernel
theorem d_FA_leadsBack_37 : decode b_FA_leadsBack 37 = .ok (.iload 4, 2) := by decide +kernel
theorem d_FA_leadsBack_39 : decode b_FA_leadsBack 39 = .ok (.invokestatic 82, 3) := by decide +kernel
theorem d_FA_leadsBack_42 : decode b_FA_leadsBack 42 = .ok (.istore_n 2, 1) := by decide +kernel
theorem d_FA_leadsBack_43 : decode b_FA_leadsBack 43 = .ok (.iload_n 2, 1) := by decide +kernel
theorem d_FA_leadsBack_44 : decode b_FA_leadsBack 44 = .ok (.iload_n 1, 1) := by decide +kernel
theorem d_FA_leadsBack_45 : decode b_FA_leadsBack 45 = .ok (.if_icmp .ne 5, 3) := by decide +kernel
theorem d_FA_leadsBack_48 : decode b_FA_leadsBack 48 = .ok (.iconst 1, 1) := by decide +kernel
theorem d_FA_leadsBack_49 : decode b_FA_leadsBack 49 = .ok (.ireturn, 1) := by decide +kernel
theorem d_FA_leadsBack_50 : decode b_FA_leadsBack 50 = .ok (.iinc 3 1, 3) := by decide +kernel
theorem d_FA_leadsBack_53 : decode b_FA_leadsBack 53 = .ok (.goto (-49), 3) := by decide +kernel
theorem d_FA_leadsBack_56 : decode b_FA_leadsBack 56 = .ok (.iconst 0, 1) := by decide +kernel
theorem d_FA_leadsBack_57 : decode b_FA_leadsBack 57 = .ok (.ireturn, 1) := by decide +kernel
set_option maxHeartbeats 4000000 in
set_option maxRecDepth 100000 in
theorem c_FA_leadsBack (l : Launch) (dC : Nat → ClassId) (dI : Nat → Nat → Nat) (o : Nat) (wa : Nat) (sa : Nat) (la : Nat) (sz : Int32) (sc : Int32) (hv : Int32) (cI : ClassId) (B : Nat → Nat) (w : Nat → Int32) (st : Nat → Int32) (ln : Nat → Int32) (c : Nat) (hF : fm_FO B w st ln) (h1 : fm_HF B 2 ≤ c) (h2 : c ≤ fm_HF B 3) : fm_M l (dC, dI) y_FA_leadsBack w_FA_leadsBack ({ frames := 2, cells := 0, slots := 0, locals := 44 }) [.ref o, .int (nI (c))] [(o, .inr (1, [.ref wa, .ref sa, .ref la, .int (nI (fm_HF B 2)), .int (nI (fm_HF B 3)), .int (sz), .int (sc), .int (hv)])), (wa, .inl (cI, 2048, .inl (w))), (sa, .inl (cI, 10, .inl (st))), (la, .inl (cI, 10, .inl (ln)))] [(cI, .int)] ((fm_bI (fm_bk B c 256 c))) := by
  refine Met.ofW (cc := b_FA_leadsBack) (maxL := 5) (ret := (some .boolean)) (by decide) rfl ?_
  intro pg ev s m args below meth cd s₁ BD hml hv
  obtain ⟨rfl, hP, hK⟩ := hv
  have hx := BD.exec
  have hb := BD.bytes
  have hr := BD.returns
  have hts := atoms_spec (ws := w_FA_leadsBack) BD.pre
  have ht : ∀ w ∈ fm_T, w.before _ s = true := fun w h => hts w (List.mem_cons_of_mem _ h)
  have hown : s.vm.findClass R_FA = some m.cls := findClass_of_methodNamed BD.named
  have hlocks := BD.notSynchronized
  have S : CallFix pg m cd b_FA_leadsBack 5 s _ w_FA_leadsBack R_FA := ⟨hx, hb, hml, hown, hts⟩
  have hl := lv_entry ([.ref o, .int (nI (c))]) (n := 5) (Nat.le_of_ble_eq_true rfl)
  rw [lg_entry_eq]
  generalize (lg_sl ([.ref o, .int (nI (c))]) ++ List.replicate (5 - (lg_sl ([.ref o, .int (nI (c))])).length) Slot.unset).toArray = ls at hl ⊢
  have hl : lv_has ls 5 [(0, .ref o), (1, .int (nI (c)))] := hl
  have hB : ∀ i, B i < 256 := hF.1.1
  obtain ⟨hL, hFw, hFs, hFl⟩ := id hF
  obtain ⟨-, hq, h3, h10⟩ := id hL
  refine lv_iload_n hx hb d_FA_leadsBack_0 rfl (lv_at hl 1 rfl) ?_
  refine lv_istore_n (lv' := [(2, .int (nI (c))), (0, .ref o), (1, .int (nI (c)))]) hx hb d_FA_leadsBack_1 rfl hl (by decide) rfl (fun ls hl => ?_)
  refine lv_iconst (v := nI (0)) hx hb d_FA_leadsBack_2 (by decide) ?_
  refine lv_istore_n (lv' := [(3, .int (nI (0))), (2, .int (nI (c))), (0, .ref o), (1, .int (nI (c)))]) hx hb d_FA_leadsBack_3 rfl hl (by decide) rfl (fun ls hl => ?_)
  refine fm_loop2 (LV := fun (x : Nat) (i : Nat) => [(0, .ref o), (1, .int (nI (c))), (2, .int (nI (x))), (3, .int (nI (i)))]) (I := fun (x : Nat) (i : Nat) => i ≤ 256 ∧ x < 256 ∧ fm_bk B c (256 - i) x = fm_bk B c 256 c) (μ := fun (x : Nat) (i : Nat) => 256 - i) ?_ c 0 (⟨by decide, by omega, rfl⟩) ls (lv_sub hl [2, 3, 1, 0] rfl)
  intro x i hI_4 ih_4 ls hl
  have hl : lv_has ls 5 [(0, .ref o), (1, .int (nI (c))), (2, .int (nI (x))), (3, .int (nI (i)))] := hl
  obtain ⟨hi, hx256, hbk⟩ := hI_4
  have hthx := fm_th_ch hB (x := x) (by omega)
  refine lv_iload_n hx hb d_FA_leadsBack_4 rfl (lv_at hl 3 rfl) ?_
  refine lv_sipush (v := nI (256)) hx hb d_FA_leadsBack_5 (by decide) ?_
  refine lv_icmp_ge (tgt := 56) hx hb d_FA_leadsBack_8 (by decide) (fun c0 => ?_) (fun c0 => ?_)
  · have c_8 : 256 ≤ i := (nI_leI (a := 256) (b := i) (by omega) (by omega)).mp c0
    refine lv_iconst (v := nI (0)) hx hb d_FA_leadsBack_56 (by decide) ?_
    exact W.zret (ty := .boolean) hx hb hr (rfl) (fun t ht hW => ⟨_, rfl, by refine fm_bI_0 ?_; rw [← hbk, show 256 - i = 0 by omega]; rfl, ht⟩) (fun q hq => by cases hq) d_FA_leadsBack_57
  · have c_8 : ¬ (256 ≤ i) := fun z => c0 ((nI_leI (a := 256) (b := i) (by omega) (by omega)).mpr z)
    refine lv_aload_n hx hb d_FA_leadsBack_11 rfl (lv_at hl 0 rfl) ?_
    refine lv_iload_n hx hb d_FA_leadsBack_12 rfl (lv_at hl 2 rfl) ?_
    refine fm_cv S (c_FO_character l dC dI o wa sa la sz sc hv cI B w st ln (nI (x)) (hF)) rfl rfl k_FO_character q_2_90 ⟨Nat.le_of_ble_eq_true rfl, Nat.le_of_ble_eq_true rfl⟩ (hP.sub [0, 1, 2, 3] rfl) (hK.sub [0] rfl) 0 rfl rfl rfl hl.1 rfl (Nat.le_of_ble_eq_true rfl) ⟨Nat.zero_le _, Nat.zero_le _⟩ d_FA_leadsBack_13 ?_
    refine lv_istore (lv' := [(4, .int (fm_ch B (nI (x)))), (0, .ref o), (1, .int (nI (c))), (2, .int (nI (x))), (3, .int (nI (i)))]) hx hb d_FA_leadsBack_16 hl (by decide) rfl (fun ls hl => ?_)
    refine lv_iload hx hb d_FA_leadsBack_18 (lv_at hl 0 rfl) ?_
    refine fm_cs S (c_FO_widthPlace l dC dI (fm_ch B (nI (x))) ) rfl rfl k_FO_widthPlace q_2_73 ⟨Nat.le_of_ble_eq_true rfl, Nat.le_of_ble_eq_true rfl⟩ (hP.sub [] rfl) (hK.sub [] rfl) rfl hl.1 rfl (Nat.le_of_ble_eq_true rfl) ⟨Nat.zero_le _, Nat.zero_le _⟩ d_FA_leadsBack_20 ?_
    have f0_20 := fm_by_lt (fm_ch B (nI (x))) 0
    refine lv_if_eq (tgt := 35) hx hb d_FA_leadsBack_23 (by decide) (fun c0 => ?_) (fun c0 => ?_)
    · have c_23 : fm_by (fm_ch B (nI (x))) 0 = 0 := (nI_eq (a := fm_by (fm_ch B (nI (x))) 0) (b := 0) (by omega) (by omega)).mp c0
      have hth : fm_th B x = false := by rw [hthx]; exact decide_eq_false (fun z => z c_23)
      refine lv_iconst (v := nI (0)) hx hb d_FA_leadsBack_35 (by decide) ?_
      exact W.zret (ty := .boolean) hx hb hr (rfl) (fun t ht hW => ⟨_, rfl, by refine fm_bI_0 ?_; rw [← hbk, fm_bk_s (by omega)]; first | (rw [if_pos (Or.inl hth)]; done) | (rw [if_pos (Or.inr c_32)]; done), ht⟩) (fun q hq => by cases hq) d_FA_leadsBack_36
    · have c_23 : ¬ (fm_by (fm_ch B (nI (x))) 0 = 0) := fun z => c0 ((nI_eq (a := fm_by (fm_ch B (nI (x))) 0) (b := 0) (by omega) (by omega)).mpr z)
      have hth : fm_th B x = true := by rw [hthx]; exact decide_eq_true c_23
      obtain ⟨hx1, hx2, -⟩ := fm_th_in hth
      have hl : lv_has ls 5 [(4, .int (fm_W B 1 (x - fm_HF B 2))), (0, .ref o), (1, .int (nI (c))), (2, .int (nI (x))), (3, .int (nI (i)))] := by rw [show ((fm_ch B (nI (x))) : Int32) = (fm_W B 1 (x - fm_HF B 2)) from fm_ch_in hB hx1 hx2] at hl; exact hl
      refine lv_iload hx hb d_FA_leadsBack_26 (lv_at hl 0 rfl) ?_
      refine fm_cs S (c_FO_tag l dC dI (fm_W B 1 (x - fm_HF B 2)) ) rfl rfl k_FO_tag q_2_94 ⟨Nat.le_of_ble_eq_true rfl, Nat.le_of_ble_eq_true rfl⟩ (hP.sub [] rfl) (hK.sub [] rfl) rfl hl.1 rfl (Nat.le_of_ble_eq_true rfl) ⟨Nat.zero_le _, Nat.zero_le _⟩ d_FA_leadsBack_28 ?_
      refine fm_tw (z := nI (fm_AT B 1 (x - fm_HF B 2) 2 % 4)) (by simp only [fm_by_W hB _ _ (show 0 < 4 by decide), fm_by_W hB _ _ (show 1 < 4 by decide), fm_by_W hB _ _ (show 2 < 4 by decide), fm_by_W hB _ _ (show 3 < 4 by decide)]) ?_
      have f0_28 := fm_AT_lt hB 1 (x - fm_HF B 2) 2
      refine fm_tw (z := nI (fm_tag B x)) (rfl) ?_
      have htg := fm_tag_lt B x
      refine lv_iconst (v := nI (2)) hx hb d_FA_leadsBack_31 (by decide) ?_
      refine lv_icmp_eq (tgt := 37) hx hb d_FA_leadsBack_32 (by decide) (fun c0 => ?_) (fun c0 => ?_)
      · have c_32 : fm_tag B x = 2 := (nI_eq (a := fm_tag B x) (b := 2) (by omega) (by omega)).mp c0
        refine lv_iload hx hb d_FA_leadsBack_37 (lv_at hl 0 rfl) ?_
        refine fm_cs S (c_FO_rest l dC dI (fm_W B 1 (x - fm_HF B 2)) ) rfl rfl k_FO_rest q_2_91 ⟨Nat.le_of_ble_eq_true rfl, Nat.le_of_ble_eq_true rfl⟩ (hP.sub [] rfl) (hK.sub [] rfl) rfl hl.1 rfl (Nat.le_of_ble_eq_true rfl) ⟨Nat.zero_le _, Nat.zero_le _⟩ d_FA_leadsBack_39 ?_
        refine fm_tw (z := nI (fm_AT B 1 (x - fm_HF B 2) 3)) (by simp only [fm_by_W hB _ _ (show 0 < 4 by decide), fm_by_W hB _ _ (show 1 < 4 by decide), fm_by_W hB _ _ (show 2 < 4 by decide), fm_by_W hB _ _ (show 3 < 4 by decide)]) ?_
        have f0_39 := fm_AT_lt hB 1 (x - fm_HF B 2) 3
        refine fm_tw (z := nI (fm_rest B x)) (rfl) ?_
        have hrt := fm_rest_lt hB x
        refine lv_istore_n (lv' := [(2, .int (nI (fm_rest B x))), (4, .int (fm_W B 1 (x - fm_HF B 2))), (0, .ref o), (1, .int (nI (c))), (3, .int (nI (i)))]) hx hb d_FA_leadsBack_42 rfl hl (by decide) rfl (fun ls hl => ?_)
        refine lv_iload_n hx hb d_FA_leadsBack_43 rfl (lv_at hl 0 rfl) ?_
        refine lv_iload_n hx hb d_FA_leadsBack_44 rfl (lv_at hl 3 rfl) ?_
        refine lv_icmp_ne (tgt := 50) hx hb d_FA_leadsBack_45 (by decide) (fun c0 => ?_) (fun c0 => ?_)
        · have c_45 : ¬ (fm_rest B x = c) := fun z => c0 ((nI_eq (a := fm_rest B x) (b := c) (by omega) (by omega)).mpr z)
          refine lv_iinc (v := nI (i + 1)) (lv' := [(3, .int (nI (i + 1))), (2, .int (nI (fm_rest B x))), (4, .int (fm_W B 1 (x - fm_HF B 2))), (0, .ref o), (1, .int (nI (c)))]) hx hb d_FA_leadsBack_50 hl (k := 4) rfl (nI_1 _) (by decide) rfl (fun ls hl => ?_)
          refine lv_goto (tgt := 4) hx hb d_FA_leadsBack_53 (by decide) ?_
          exact ih_4 (fm_rest B x) (i + 1) ls (⟨by omega, by omega, by rw [← hbk, fm_bk_s (i := i) (x := x) (by omega), if_neg (fun z => z.elim (fun q => by rw [hth] at q; cases q) (fun q => q c_32)), if_neg c_45]⟩) (by omega) (lv_sub hl [3, 4, 1, 0] rfl)
        · have c_45 : fm_rest B x = c := (nI_eq (a := fm_rest B x) (b := c) (by omega) (by omega)).mp c0
          refine lv_iconst (v := nI (1)) hx hb d_FA_leadsBack_48 (by decide) ?_
          exact W.zret (ty := .boolean) hx hb hr (rfl) (fun t ht hW => ⟨_, rfl, by refine fm_bI_1 ?_; rw [← hbk, fm_bk_s (by omega), if_neg (fun z => z.elim (fun q => by rw [hth] at q; cases q) (fun q => q c_32)), if_pos c_45], ht⟩) (fun q hq => by cases hq) d_FA_leadsBack_49
      · have c_32 : ¬ (fm_tag B x = 2) := fun z => c0 ((nI_eq (a := fm_tag B x) (b := 2) (by omega) (by omega)).mpr z)
        refine lv_iconst (v := nI (0)) hx hb d_FA_leadsBack_35 (by decide) ?_
        exact W.zret (ty := .boolean) hx hb hr (rfl) (fun t ht hW => ⟨_, rfl, by refine fm_bI_0 ?_; rw [← hbk, fm_bk_s (by omega)]; first | (rw [if_pos (Or.inl hth)]; done) | (rw [if_pos (Or.inr c_32)]; done), ht⟩) (fun q hq => by cases hq) d_FA_leadsBack_36
theorem d_FA_tagHolds_0 : decode b_FA_tagHolds 0 = .ok (.aload_n 0, 1) := by decide +kernel
theorem d_FA_tagHolds_1 : decode b_FA_tagHolds 1 = .ok (.iload_n 1, 1) := by decide +kernel
theorem d_FA_tagHolds_2 : decode b_FA_tagHolds 2 = .ok (.invokevirtual 79, 3) := by decide +kernel
theorem d_FA_tagHolds_5 : decode b_FA_tagHolds 5 = .ok (.istore_n 2, 1) := by decide +kernel
theorem d_FA_tagHolds_6 : decode b_FA_tagHolds 6 = .ok (.iload_n 2, 1) := by decide +kernel
theorem d_FA_tagHolds_7 : decode b_FA_tagHolds 7 = .ok (.invokestatic 82, 3) := by decide +kernel
theorem d_FA_tagHolds_10 : decode b_FA_tagHolds 10 = .ok (.istore_n 3, 1) := by decide +kernel
theorem d_FA_tagHolds_11 : decode b_FA_tagHolds 11 = .ok (.iload_n 2, 1) := by decide +kernel
theorem d_FA_tagHolds_12 : decode b_FA_tagHolds 12 = .ok (.invokestatic 85, 3) := by decide +kernel
theorem d_FA_tagHolds_15 : decode b_FA_tagHolds 15 = .ok (.tableswitch 79 1 3 #[25, 41, 63], 25) := by decide +kernel
theorem d_FA_tagHolds_40 : decode b_FA_tagHolds 40 = .ok (.iload_n 3, 1) := by decide +kernel
theorem d_FA_tagHolds_41 : decode b_FA_tagHolds 41 = .ok (.aload_n 0, 1) := by decide +kernel
theorem d_FA_tagHolds_42 : decode b_FA_tagHolds 42 = .ok (.bipush 6, 2) := by decide +kernel
theorem d_FA_tagHolds_44 : decode b_FA_tagHolds 44 = .ok (.invokevirtual 57, 3) := by decide +kernel
theorem d_FA_tagHolds_47 : decode b_FA_tagHolds 47 = .ok (.if_icmp .ge 7, 3) := by decide +kernel
theorem d_FA_tagHolds_50 : decode b_FA_tagHolds 50 = .ok (.iconst 1, 1) := by decide +kernel
theorem d_FA_tagHolds_51 : decode b_FA_tagHolds 51 = .ok (.goto 4, 3) := by decide +kernel
theorem d_FA_tagHolds_54 : decode b_FA_tagHolds 54 = .ok (.iconst 0, 1) := by decide +kernel
theorem d_FA_tagHolds_55 : decode b_FA_tagHolds 55 = .ok (.ireturn, 1) := by decide +kernel
theorem d_FA_tagHolds_56 : decode b_FA_tagHolds 56 = .ok (.aload_n 0, 1) := by decide +kernel
theorem d_FA_tagHolds_57 : decode b_FA_tagHolds 57 = .ok (.iload_n 3, 1) := by decide +kernel
theorem d_FA_tagHolds_58 : decode b_FA_tagHolds 58 = .ok (.invokevirtual 72, 3) := by decide +kernel
theorem d_FA_tagHolds_61 : decode b_FA_tagHolds 61 = .ok (.ifCond .eq 15, 3) := by decide +kernel
theorem d_FA_tagHolds_64 : decode b_FA_tagHolds 64 = .ok (.aload_n 0, 1) := by decide +kernel
theorem d_FA_tagHolds_65 : decode b_FA_tagHolds 65 = .ok (.iload_n 1, 1) := by decide +kernel
theorem d_FA_tagHolds_66 : decode b_FA_tagHolds 66 = .ok (.invokestatic 88, 3) := by decide +kernel
theorem d_FA_tagHolds_69 : decode b_FA_tagHolds 69 = .ok (.ifCond .ne 7, 3) := by decide +kernel
theorem d_FA_tagHolds_72 : decode b_FA_tagHolds 72 = .ok (.iconst 1, 1) := by decide +kernel
theorem d_FA_tagHolds_73 : decode b_FA_tagHolds 73 = .ok (.goto 4, 3) := by decide +kernel
theorem d_FA_tagHolds_76 : decode b_FA_tagHolds 76 = .ok (.iconst 0, 1) := by decide +kernel
theorem d_FA_tagHolds_77 : decode b_FA_tagHolds 77 = .ok (.ireturn, 1) := by decide +kernel
theorem d_FA_tagHolds_78 : decode b_FA_tagHolds 78 = .ok (.iload_n 3, 1) := by decide +kernel
theorem d_FA_tagHolds_79 : decode b_FA_tagHolds 79 = .ok (.aload_n 0, 1) := by decide +kernel
theorem d_FA_tagHolds_80 : decode b_FA_tagHolds 80 = .ok (.bipush 8, 2) := by decide +kernel
theorem d_FA_tagHolds_82 : decode b_FA_tagHolds 82 = .ok (.invokevirtual 57, 3) := by decide +kernel
theorem d_FA_tagHolds_85 : decode b_FA_tagHolds 85 = .ok (.if_icmp .ge 7, 3) := by decide +kernel
theorem d_FA_tagHolds_88 : decode b_FA_tagHolds 88 = .ok (.iconst 1, 1) := by decide +kernel
theorem d_FA_tagHolds_89 : decode b_FA_tagHolds 89 = .ok (.goto 4, 3) := by decide +kernel
theorem d_FA_tagHolds_92 : decode b_FA_tagHolds 92 = .ok (.iconst 0, 1) := by decide +kernel
theorem d_FA_tagHolds_93 : decode b_FA_tagHolds 93 = .ok (.ireturn, 1) := by decide +kernel
theorem d_FA_tagHolds_94 : decode b_FA_tagHolds 94 = .ok (.iconst 1, 1) := by decide +kernel
theorem d_FA_tagHolds_95 : decode b_FA_tagHolds 95 = .ok (.ireturn, 1) := by decide +kernel
set_option maxHeartbeats 4000000 in
set_option maxRecDepth 100000 in
theorem c_FA_tagHolds (l : Launch) (dC : Nat → ClassId) (dI : Nat → Nat → Nat) (o : Nat) (wa : Nat) (sa : Nat) (la : Nat) (sz : Int32) (sc : Int32) (hv : Int32) (cI : ClassId) (B : Nat → Nat) (w : Nat → Int32) (st : Nat → Int32) (ln : Nat → Int32) (c : Nat) (hF : fm_FO B w st ln) (hth : fm_th B c = true) : fm_M l (dC, dI) y_FA_tagHolds w_FA_tagHolds ({ frames := 3, cells := 0, slots := 0, locals := 68 }) [.ref o, .int (nI (c))] [(o, .inr (1, [.ref wa, .ref sa, .ref la, .int (nI (fm_HF B 2)), .int (nI (fm_HF B 3)), .int (sz), .int (sc), .int (hv)])), (wa, .inl (cI, 2048, .inl (w))), (sa, .inl (cI, 10, .inl (st))), (la, .inl (cI, 10, .inl (ln)))] [(cI, .int)] ((fm_bI (fm_tag1 B c))) := by
  refine Met.ofW (cc := b_FA_tagHolds) (maxL := 4) (ret := (some .boolean)) (by decide) rfl ?_
  intro pg ev s m args below meth cd s₁ BD hml hv
  obtain ⟨rfl, hP, hK⟩ := hv
  have hx := BD.exec
  have hb := BD.bytes
  have hr := BD.returns
  have hts := atoms_spec (ws := w_FA_tagHolds) BD.pre
  have ht : ∀ w ∈ fm_T, w.before _ s = true := fun w h => hts w (List.mem_cons_of_mem _ h)
  have hown : s.vm.findClass R_FA = some m.cls := findClass_of_methodNamed BD.named
  have hlocks := BD.notSynchronized
  have S : CallFix pg m cd b_FA_tagHolds 4 s _ w_FA_tagHolds R_FA := ⟨hx, hb, hml, hown, hts⟩
  have hl := lv_entry ([.ref o, .int (nI (c))]) (n := 4) (Nat.le_of_ble_eq_true rfl)
  rw [lg_entry_eq]
  generalize (lg_sl ([.ref o, .int (nI (c))]) ++ List.replicate (4 - (lg_sl ([.ref o, .int (nI (c))])).length) Slot.unset).toArray = ls at hl ⊢
  have hl : lv_has ls 4 [(0, .ref o), (1, .int (nI (c)))] := hl
  have hB : ∀ i, B i < 256 := hF.1.1
  obtain ⟨hL, hFw, hFs, hFl⟩ := id hF
  obtain ⟨-, hq, h3, h10⟩ := id hL
  obtain ⟨h1, h2, -⟩ := fm_th_in hth
  have htl := fm_tag_lt B c
  refine lv_aload_n hx hb d_FA_tagHolds_0 rfl (lv_at hl 0 rfl) ?_
  refine lv_iload_n hx hb d_FA_tagHolds_1 rfl (lv_at hl 1 rfl) ?_
  refine fm_cv S (c_FO_characterN l dC dI o wa sa la sz sc hv cI B w st ln c (hF) (h1) (h2)) rfl rfl k_FO_character q_2_90 ⟨Nat.le_of_ble_eq_true rfl, Nat.le_of_ble_eq_true rfl⟩ (hP.sub [0, 1, 2, 3] rfl) (hK.sub [0] rfl) 0 rfl rfl rfl hl.1 rfl (Nat.le_of_ble_eq_true rfl) ⟨Nat.zero_le _, Nat.zero_le _⟩ d_FA_tagHolds_2 ?_
  refine lv_istore_n (lv' := [(2, .int (fm_W B 1 (c - fm_HF B 2))), (0, .ref o), (1, .int (nI (c)))]) hx hb d_FA_tagHolds_5 rfl hl (by decide) rfl (fun ls hl => ?_)
  refine lv_iload_n hx hb d_FA_tagHolds_6 rfl (lv_at hl 0 rfl) ?_
  refine fm_cs S (c_FO_rest l dC dI (fm_W B 1 (c - fm_HF B 2)) ) rfl rfl k_FO_rest q_2_91 ⟨Nat.le_of_ble_eq_true rfl, Nat.le_of_ble_eq_true rfl⟩ (hP.sub [] rfl) (hK.sub [] rfl) rfl hl.1 rfl (Nat.le_of_ble_eq_true rfl) ⟨Nat.zero_le _, Nat.zero_le _⟩ d_FA_tagHolds_7 ?_
  refine fm_tw (z := nI (fm_AT B 1 (c - fm_HF B 2) 3)) (by simp only [fm_by_W hB _ _ (show 0 < 4 by decide), fm_by_W hB _ _ (show 1 < 4 by decide), fm_by_W hB _ _ (show 2 < 4 by decide), fm_by_W hB _ _ (show 3 < 4 by decide)]) ?_
  have f0_7 := fm_AT_lt hB 1 (c - fm_HF B 2) 3
  refine lv_istore_n (lv' := [(3, .int (nI (fm_AT B 1 (c - fm_HF B 2) 3))), (2, .int (fm_W B 1 (c - fm_HF B 2))), (0, .ref o), (1, .int (nI (c)))]) hx hb d_FA_tagHolds_10 rfl hl (by decide) rfl (fun ls hl => ?_)
  refine lv_iload_n hx hb d_FA_tagHolds_11 rfl (lv_at hl 1 rfl) ?_
  refine fm_cs S (c_FO_tag l dC dI (fm_W B 1 (c - fm_HF B 2)) ) rfl rfl k_FO_tag q_2_94 ⟨Nat.le_of_ble_eq_true rfl, Nat.le_of_ble_eq_true rfl⟩ (hP.sub [] rfl) (hK.sub [] rfl) rfl hl.1 rfl (Nat.le_of_ble_eq_true rfl) ⟨Nat.zero_le _, Nat.zero_le _⟩ d_FA_tagHolds_12 ?_
  refine fm_tw (z := nI (fm_AT B 1 (c - fm_HF B 2) 2 % 4)) (by simp only [fm_by_W hB _ _ (show 0 < 4 by decide), fm_by_W hB _ _ (show 1 < 4 by decide), fm_by_W hB _ _ (show 2 < 4 by decide), fm_by_W hB _ _ (show 3 < 4 by decide)]) ?_
  have f0_12 := fm_AT_lt hB 1 (c - fm_HF B 2) 2
  refine fm_tw (z := nI (fm_tag B c)) (rfl) ?_
  rcases (show fm_tag B c = 0 ∨ fm_tag B c = 1 ∨ fm_tag B c = 2 ∨ fm_tag B c = 3 by omega) with e_15 | e_15 | e_15 | e_15
  · refine fm_tw (z := nI 0) (by rw [e_15]) ?_
    refine lv_tableOut (tgt := 94) hx hb d_FA_tagHolds_15 (by decide) (by decide) ?_
    refine lv_iconst (v := nI (1)) hx hb d_FA_tagHolds_94 (by decide) ?_
    exact W.zret (ty := .boolean) hx hb hr (rfl) (fun t ht hW => ⟨_, rfl, fm_bI_1 (fm_tag1_t (fun z => by omega) (fun z => by omega) (fun z => by omega)), ht⟩) (fun q hq => by cases hq) d_FA_tagHolds_95
  · refine fm_tw (z := nI 1) (by rw [e_15]) ?_
    refine lv_tableIn (off := 25) (tgt := 40) hx hb d_FA_tagHolds_15 (by decide) (by decide) (by decide) (by decide) ?_
    refine lv_iload_n hx hb d_FA_tagHolds_40 rfl (lv_at hl 0 rfl) ?_
    refine lv_aload_n hx hb d_FA_tagHolds_41 rfl (lv_at hl 2 rfl) ?_
    refine lv_bipush (v := nI (6)) hx hb d_FA_tagHolds_42 (by decide) ?_
    refine fm_cv S (c_FO_lengthOfN l dC dI o wa sa la sz sc hv cI B w st ln 6 (hF) (by omega)) rfl rfl k_FO_lengthOf q_2_58 ⟨Nat.le_of_ble_eq_true rfl, Nat.le_of_ble_eq_true rfl⟩ (hP.sub [0, 1, 2, 3] rfl) (hK.sub [0] rfl) 0 rfl rfl rfl hl.1 rfl (Nat.le_of_ble_eq_true rfl) ⟨Nat.zero_le _, Nat.zero_le _⟩ d_FA_tagHolds_44 ?_
    have f0_44 := fm_WD_le hB 6
    refine lv_icmp_ge (tgt := 54) hx hb d_FA_tagHolds_47 (by decide) (fun c0 => ?_) (fun c0 => ?_)
    · have c_47 : fm_WD B 6 ≤ fm_AT B 1 (c - fm_HF B 2) 3 := (nI_leI (a := fm_WD B 6) (b := fm_AT B 1 (c - fm_HF B 2) 3) (by omega) (by omega)).mp c0
      refine lv_iconst (v := nI (0)) hx hb d_FA_tagHolds_54 (by decide) ?_
      exact W.zret (ty := .boolean) hx hb hr (rfl) (fun t ht hW => ⟨_, rfl, fm_bI_0 (fm_tag1_f hth (Or.inl ⟨e_15, c_47⟩)), ht⟩) (fun q hq => by cases hq) d_FA_tagHolds_55
    · have c_47 : ¬ (fm_WD B 6 ≤ fm_AT B 1 (c - fm_HF B 2) 3) := fun z => c0 ((nI_leI (a := fm_WD B 6) (b := fm_AT B 1 (c - fm_HF B 2) 3) (by omega) (by omega)).mpr z)
      refine lv_iconst (v := nI (1)) hx hb d_FA_tagHolds_50 (by decide) ?_
      refine lv_goto (tgt := 55) hx hb d_FA_tagHolds_51 (by decide) ?_
      exact W.zret (ty := .boolean) hx hb hr (rfl) (fun t ht hW => ⟨_, rfl, fm_bI_1 (fm_tag1_t (fun _ => Nat.lt_of_not_le c_47) (fun z => by omega) (fun z => by omega)), ht⟩) (fun q hq => by cases hq) d_FA_tagHolds_55
  · refine fm_tw (z := nI 2) (by rw [e_15]) ?_
    refine lv_tableIn (off := 41) (tgt := 56) hx hb d_FA_tagHolds_15 (by decide) (by decide) (by decide) (by decide) ?_
    refine lv_aload_n hx hb d_FA_tagHolds_56 rfl (lv_at hl 2 rfl) ?_
    refine lv_iload_n hx hb d_FA_tagHolds_57 rfl (lv_at hl 0 rfl) ?_
    refine fm_cv S (c_FO_isThereN l dC dI o wa sa la sz sc hv cI B w st ln (fm_AT B 1 (c - fm_HF B 2) 3) (hF) (by omega)) rfl rfl k_FO_isThere q_2_86 ⟨Nat.le_of_ble_eq_true rfl, Nat.le_of_ble_eq_true rfl⟩ (hP.sub [0, 1, 2, 3] rfl) (hK.sub [0] rfl) 0 rfl rfl rfl hl.1 rfl (Nat.le_of_ble_eq_true rfl) ⟨Nat.zero_le _, Nat.zero_le _⟩ d_FA_tagHolds_58 ?_
    refine lv_if_eq (tgt := 76) hx hb d_FA_tagHolds_61 (by decide) (fun c0 => ?_) (fun c0 => ?_)
    · have c_61 : (fm_th B (fm_AT B 1 (c - fm_HF B 2) 3)) = false := fm_bI_f c0
      refine lv_iconst (v := nI (0)) hx hb d_FA_tagHolds_76 (by decide) ?_
      exact W.zret (ty := .boolean) hx hb hr (rfl) (fun t ht hW => ⟨_, rfl, fm_bI_0 (fm_tag1_f hth (Or.inr (Or.inr ⟨e_15, by first | (rw [fm_larger, ← fm_bk_larger hth e_15, c_69]; exact Bool.and_false _) | (unfold fm_larger; rw [show fm_th B (fm_rest B c) = false from c_61]; rfl)⟩))), ht⟩) (fun q hq => by cases hq) d_FA_tagHolds_77
    · have c_61 : (fm_th B (fm_AT B 1 (c - fm_HF B 2) 3)) = true := fm_bI_t c0
      refine lv_aload_n hx hb d_FA_tagHolds_64 rfl (lv_at hl 2 rfl) ?_
      refine lv_iload_n hx hb d_FA_tagHolds_65 rfl (lv_at hl 3 rfl) ?_
      refine fm_cs S (c_FA_leadsBack l dC dI o wa sa la sz sc hv cI B w st ln c (hF) (h1) (h2)) rfl rfl k_FA_leadsBack q_2_97 ⟨Nat.le_of_ble_eq_true rfl, Nat.le_of_ble_eq_true rfl⟩ (hP.sub [0, 1, 2, 3] rfl) (hK.sub [0] rfl) rfl hl.1 rfl (Nat.le_of_ble_eq_true rfl) ⟨Nat.zero_le _, Nat.zero_le _⟩ d_FA_tagHolds_66 ?_
      refine lv_if_ne (tgt := 76) hx hb d_FA_tagHolds_69 (by decide) (fun c0 => ?_) (fun c0 => ?_)
      · have c_69 : (fm_bk B c 256 c) = true := fm_bI_t c0
        refine lv_iconst (v := nI (0)) hx hb d_FA_tagHolds_76 (by decide) ?_
        exact W.zret (ty := .boolean) hx hb hr (rfl) (fun t ht hW => ⟨_, rfl, fm_bI_0 (fm_tag1_f hth (Or.inr (Or.inr ⟨e_15, by first | (rw [fm_larger, ← fm_bk_larger hth e_15, c_69]; exact Bool.and_false _) | (unfold fm_larger; rw [show fm_th B (fm_rest B c) = false from c_61]; rfl)⟩))), ht⟩) (fun q hq => by cases hq) d_FA_tagHolds_77
      · have c_69 : (fm_bk B c 256 c) = false := fm_bI_f c0
        refine lv_iconst (v := nI (1)) hx hb d_FA_tagHolds_72 (by decide) ?_
        refine lv_goto (tgt := 77) hx hb d_FA_tagHolds_73 (by decide) ?_
        exact W.zret (ty := .boolean) hx hb hr (rfl) (fun t ht hW => ⟨_, rfl, fm_bI_1 (fm_tag1_t (fun z => by omega) (fun z => by omega) (fun _ => by rw [fm_larger, ← fm_bk_larger hth e_15, c_69]; exact (Bool.and_true _).trans c_61)), ht⟩) (fun q hq => by cases hq) d_FA_tagHolds_77
  · refine fm_tw (z := nI 3) (by rw [e_15]) ?_
    refine lv_tableIn (off := 63) (tgt := 78) hx hb d_FA_tagHolds_15 (by decide) (by decide) (by decide) (by decide) ?_
    refine lv_iload_n hx hb d_FA_tagHolds_78 rfl (lv_at hl 0 rfl) ?_
    refine lv_aload_n hx hb d_FA_tagHolds_79 rfl (lv_at hl 2 rfl) ?_
    refine lv_bipush (v := nI (8)) hx hb d_FA_tagHolds_80 (by decide) ?_
    refine fm_cv S (c_FO_lengthOfN l dC dI o wa sa la sz sc hv cI B w st ln 8 (hF) (by omega)) rfl rfl k_FO_lengthOf q_2_58 ⟨Nat.le_of_ble_eq_true rfl, Nat.le_of_ble_eq_true rfl⟩ (hP.sub [0, 1, 2, 3] rfl) (hK.sub [0] rfl) 0 rfl rfl rfl hl.1 rfl (Nat.le_of_ble_eq_true rfl) ⟨Nat.zero_le _, Nat.zero_le _⟩ d_FA_tagHolds_82 ?_
    have f0_82 := fm_WD_le hB 8
    refine lv_icmp_ge (tgt := 92) hx hb d_FA_tagHolds_85 (by decide) (fun c0 => ?_) (fun c0 => ?_)
    · have c_85 : fm_WD B 8 ≤ fm_AT B 1 (c - fm_HF B 2) 3 := (nI_leI (a := fm_WD B 8) (b := fm_AT B 1 (c - fm_HF B 2) 3) (by omega) (by omega)).mp c0
      refine lv_iconst (v := nI (0)) hx hb d_FA_tagHolds_92 (by decide) ?_
      exact W.zret (ty := .boolean) hx hb hr (rfl) (fun t ht hW => ⟨_, rfl, fm_bI_0 (fm_tag1_f hth (Or.inr (Or.inl ⟨e_15, c_85⟩))), ht⟩) (fun q hq => by cases hq) d_FA_tagHolds_93
    · have c_85 : ¬ (fm_WD B 8 ≤ fm_AT B 1 (c - fm_HF B 2) 3) := fun z => c0 ((nI_leI (a := fm_WD B 8) (b := fm_AT B 1 (c - fm_HF B 2) 3) (by omega) (by omega)).mpr z)
      refine lv_iconst (v := nI (1)) hx hb d_FA_tagHolds_88 (by decide) ?_
      refine lv_goto (tgt := 93) hx hb d_FA_tagHolds_89 (by decide) ?_
      exact W.zret (ty := .boolean) hx hb hr (rfl) (fun t ht hW => ⟨_, rfl, fm_bI_1 (fm_tag1_t (fun z => by omega) (fun _ => Nat.lt_of_not_le c_85) (fun z => by omega)), ht⟩) (fun q hq => by cases hq) d_FA_tagHolds_93
theorem d_FA_tagsHold_0 : decode b_FA_tagsHold 0 = .ok (.iconst 0, 1) := by decide +kernel
theorem d_FA_tagsHold_1 : decode b_FA_tagsHold 1 = .ok (.istore_n 1, 1) := by decide +kernel
theorem d_FA_tagsHold_2 : decode b_FA_tagsHold 2 = .ok (.iload_n 1, 1) := by decide +kernel
theorem d_FA_tagsHold_3 : decode b_FA_tagsHold 3 = .ok (.aload_n 0, 1) := by decide +kernel
theorem d_FA_tagsHold_4 : decode b_FA_tagsHold 4 = .ok (.iconst 1, 1) := by decide +kernel
theorem d_FA_tagsHold_5 : decode b_FA_tagsHold 5 = .ok (.invokevirtual 57, 3) := by decide +kernel
theorem d_FA_tagsHold_8 : decode b_FA_tagsHold 8 = .ok (.if_icmp .ge 34, 3) := by decide +kernel
theorem d_FA_tagsHold_11 : decode b_FA_tagsHold 11 = .ok (.aload_n 0, 1) := by decide +kernel
theorem d_FA_tagsHold_12 : decode b_FA_tagsHold 12 = .ok (.getfield 15, 3) := by decide +kernel
theorem d_FA_tagsHold_15 : decode b_FA_tagsHold 15 = .ok (.iload_n 1, 1) := by decide +kernel
theorem d_FA_tagsHold_16 : decode b_FA_tagsHold 16 = .ok (.iadd, 1) := by decide +kernel
theorem d_FA_tagsHold_17 : decode b_FA_tagsHold 17 = .ok (.istore_n 2, 1) := by decide +kernel
theorem d_FA_tagsHold_18 : decode b_FA_tagsHold 18 = .ok (.aload_n 0, 1) := by decide +kernel
theorem d_FA_tagsHold_19 : decode b_FA_tagsHold 19 = .ok (.iload_n 2, 1) := by decide +kernel
theorem d_FA_tagsHold_20 : decode b_FA_tagsHold 20 = .ok (.invokevirtual 72, 3) := by decide +kernel
theorem d_FA_tagsHold_23 : decode b_FA_tagsHold 23 = .ok (.ifCond .eq 13, 3) := by decide +kernel
theorem d_FA_tagsHold_26 : decode b_FA_tagsHold 26 = .ok (.aload_n 0, 1) := by decide +kernel
theorem d_FA_tagsHold_27 : decode b_FA_tagsHold 27 = .ok (.iload_n 2, 1) := by decide +kernel
theorem d_FA_tagsHold_28 : decode b_FA_tagsHold 28 = .ok (.invokestatic 76, 3) := by decide +kernel
theorem d_FA_tagsHold_31 : decode b_FA_tagsHold 31 = .ok (.ifCond .ne 5, 3) := by decide +kernel
theorem d_FA_tagsHold_34 : decode b_FA_tagsHold 34 = .ok (.iconst 0, 1) := by decide +kernel
theorem d_FA_tagsHold_35 : decode b_FA_tagsHold 35 = .ok (.ireturn, 1) := by decide +kernel
theorem d_FA_tagsHold_36 : decode b_FA_tagsHold 36 = .ok (.iinc 1 1, 3) := by decide +kernel
theorem d_FA_tagsHold_39 : decode b_FA_tagsHold 39 = .ok (.goto (-37), 3) := by decide +kernel
theorem d_FA_tagsHold_42 : decode b_FA_tagsHold 42 = .ok (.iconst 1, 1) := by decide +kernel
theorem d_FA_tagsHold_43 : decode b_FA_tagsHold 43 = .ok (.ireturn, 1) := by decide +kernel
set_option maxHeartbeats 4000000 in
set_option maxRecDepth 100000 in
theorem c_FA_tagsHold (l : Launch) (dC : Nat → ClassId) (dI : Nat → Nat → Nat) (o : Nat) (wa : Nat) (sa : Nat) (la : Nat) (sz : Int32) (sc : Int32) (hv : Int32) (cI : ClassId) (B : Nat → Nat) (w : Nat → Int32) (st : Nat → Int32) (ln : Nat → Int32) (hF : fm_FO B w st ln) : fm_M l (dC, dI) y_FA_tagsHold w_FA_tagsHold ({ frames := 4, cells := 0, slots := 0, locals := 91 }) [.ref o] [(o, .inr (1, [.ref wa, .ref sa, .ref la, .int (nI (fm_HF B 2)), .int (nI (fm_HF B 3)), .int (sz), .int (sc), .int (hv)])), (wa, .inl (cI, 2048, .inl (w))), (sa, .inl (cI, 10, .inl (st))), (la, .inl (cI, 10, .inl (ln)))] [(cI, .int)] ((fm_bI (fm_all (fm_WD B 1) (fun k => fm_tag1 B (fm_HF B 2 + k))))) := by
  refine Met.ofW (cc := b_FA_tagsHold) (maxL := 3) (ret := (some .boolean)) (by decide) rfl ?_
  intro pg ev s m args below meth cd s₁ BD hml hv
  obtain ⟨rfl, hP, hK⟩ := hv
  have hx := BD.exec
  have hb := BD.bytes
  have hr := BD.returns
  have hts := atoms_spec (ws := w_FA_tagsHold) BD.pre
  have ht : ∀ w ∈ fm_T, w.before _ s = true := fun w h => hts w (List.mem_cons_of_mem _ h)
  have hown : s.vm.findClass R_FA = some m.cls := findClass_of_methodNamed BD.named
  have hlocks := BD.notSynchronized
  have S : CallFix pg m cd b_FA_tagsHold 3 s _ w_FA_tagsHold R_FA := ⟨hx, hb, hml, hown, hts⟩
  have hl := lv_entry ([.ref o]) (n := 3) (Nat.le_of_ble_eq_true rfl)
  rw [lg_entry_eq]
  generalize (lg_sl ([.ref o]) ++ List.replicate (3 - (lg_sl ([.ref o])).length) Slot.unset).toArray = ls at hl ⊢
  have hl : lv_has ls 3 [(0, .ref o)] := hl
  have hB : ∀ i, B i < 256 := hF.1.1
  obtain ⟨hL, hFw, hFs, hFl⟩ := id hF
  obtain ⟨-, hq, h3, h10⟩ := id hL
  have hw1 := fm_WD_le hB 1
  have hw1b := fm_WD1 B
  refine lv_iconst (v := nI (0)) hx hb d_FA_tagsHold_0 (by decide) ?_
  refine lv_istore_n (lv' := [(1, .int (nI (0))), (0, .ref o)]) hx hb d_FA_tagsHold_1 rfl hl (by decide) rfl (fun ls hl => ?_)
  refine fm_loop1 (LV := fun (i : Nat) => [(0, .ref o), (1, .int (nI (i)))]) (I := fun (i : Nat) => i ≤ fm_WD B 1 ∧ fm_all i (fun k => fm_tag1 B (fm_HF B 2 + k)) = true) (μ := fun (i : Nat) => fm_WD B 1 - i) ?_ 0 (⟨Nat.zero_le _, rfl⟩) ls (lv_sub hl [1, 0] rfl)
  intro i hI_2 ih_2 ls hl
  have hl : lv_has ls 3 [(0, .ref o), (1, .int (nI (i)))] := hl
  obtain ⟨hi, hal⟩ := hI_2
  refine lv_iload_n hx hb d_FA_tagsHold_2 rfl (lv_at hl 1 rfl) ?_
  refine lv_aload_n hx hb d_FA_tagsHold_3 rfl (lv_at hl 0 rfl) ?_
  refine lv_iconst (v := nI (1)) hx hb d_FA_tagsHold_4 (by decide) ?_
  refine fm_cv S (c_FO_lengthOfN l dC dI o wa sa la sz sc hv cI B w st ln 1 (hF) (by omega)) rfl rfl k_FO_lengthOf q_2_58 ⟨Nat.le_of_ble_eq_true rfl, Nat.le_of_ble_eq_true rfl⟩ (hP.sub [0, 1, 2, 3] rfl) (hK.sub [0] rfl) 0 rfl rfl rfl hl.1 rfl (Nat.le_of_ble_eq_true rfl) ⟨Nat.zero_le _, Nat.zero_le _⟩ d_FA_tagsHold_5 ?_
  have f0_5 := fm_WD_le hB 1
  refine lv_icmp_ge (tgt := 42) hx hb d_FA_tagsHold_8 (by decide) (fun c0 => ?_) (fun c0 => ?_)
  · have c_8 : fm_WD B 1 ≤ i := (nI_leI (a := fm_WD B 1) (b := i) (by omega) (by omega)).mp c0
    refine lv_iconst (v := nI (1)) hx hb d_FA_tagsHold_42 (by decide) ?_
    exact W.zret (ty := .boolean) hx hb hr (rfl) (fun t ht hW => ⟨_, rfl, fm_bI_1 (by rw [← hal, show i = fm_WD B 1 by omega]), ht⟩) (fun q hq => by cases hq) d_FA_tagsHold_43
  · have c_8 : ¬ (fm_WD B 1 ≤ i) := fun z => c0 ((nI_leI (a := fm_WD B 1) (b := i) (by omega) (by omega)).mpr z)
    refine lv_aload_n hx hb d_FA_tagsHold_11 rfl (lv_at hl 0 rfl) ?_
    refine va_get (D := (dC, dI)) (ci := 1) (v := .int (nI (fm_HF B 2))) (C := R_FO) (T := F_FO) (N := 8) hx hb ht i_FO hown hK hP 0 rfl rfl 3 (by decide) (ht _ q_1_72) (fun _ h9 => h9) rfl d_FA_tagsHold_12 ?_
    refine lv_iload_n hx hb d_FA_tagsHold_15 rfl (lv_at hl 1 rfl) ?_
    refine lv_iadd hx hb d_FA_tagsHold_16 ?_
    refine fm_tw (z := nI (fm_HF B 2 + i)) (nI_add _ _) ?_
    refine lv_istore_n (lv' := [(2, .int (nI (fm_HF B 2 + i))), (0, .ref o), (1, .int (nI (i)))]) hx hb d_FA_tagsHold_17 rfl hl (by decide) rfl (fun ls hl => ?_)
    refine lv_aload_n hx hb d_FA_tagsHold_18 rfl (lv_at hl 1 rfl) ?_
    refine lv_iload_n hx hb d_FA_tagsHold_19 rfl (lv_at hl 0 rfl) ?_
    refine fm_cv S (c_FO_isThereN l dC dI o wa sa la sz sc hv cI B w st ln (fm_HF B 2 + i) (hF) (by omega)) rfl rfl k_FO_isThere q_2_86 ⟨Nat.le_of_ble_eq_true rfl, Nat.le_of_ble_eq_true rfl⟩ (hP.sub [0, 1, 2, 3] rfl) (hK.sub [0] rfl) 0 rfl rfl rfl hl.1 rfl (Nat.le_of_ble_eq_true rfl) ⟨Nat.zero_le _, Nat.zero_le _⟩ d_FA_tagsHold_20 ?_
    refine lv_if_eq (tgt := 36) hx hb d_FA_tagsHold_23 (by decide) (fun c0 => ?_) (fun c0 => ?_)
    · have c_23 : (fm_th B (fm_HF B 2 + i)) = false := fm_bI_f c0
      refine lv_iinc (v := nI (i + 1)) (lv' := [(1, .int (nI (i + 1))), (2, .int (nI (fm_HF B 2 + i))), (0, .ref o)]) hx hb d_FA_tagsHold_36 hl (k := 2) rfl (nI_1 _) (by decide) rfl (fun ls hl => ?_)
      refine lv_goto (tgt := 2) hx hb d_FA_tagsHold_39 (by decide) ?_
      exact ih_2 (i + 1) ls (⟨by omega, by rw [fm_all, hal, Bool.true_and]; first | exact c_31 | exact fm_tag1_0 c_23⟩) (by omega) (lv_sub hl [2, 0] rfl)
    · have c_23 : (fm_th B (fm_HF B 2 + i)) = true := fm_bI_t c0
      refine lv_aload_n hx hb d_FA_tagsHold_26 rfl (lv_at hl 1 rfl) ?_
      refine lv_iload_n hx hb d_FA_tagsHold_27 rfl (lv_at hl 0 rfl) ?_
      refine fm_cs S (c_FA_tagHolds l dC dI o wa sa la sz sc hv cI B w st ln (fm_HF B 2 + i) (hF) (c_23)) rfl rfl k_FA_tagHolds q_2_87 ⟨Nat.le_of_ble_eq_true rfl, Nat.le_of_ble_eq_true rfl⟩ (hP.sub [0, 1, 2, 3] rfl) (hK.sub [0] rfl) rfl hl.1 rfl (Nat.le_of_ble_eq_true rfl) ⟨Nat.zero_le _, Nat.zero_le _⟩ d_FA_tagsHold_28 ?_
      refine lv_if_ne (tgt := 36) hx hb d_FA_tagsHold_31 (by decide) (fun c0 => ?_) (fun c0 => ?_)
      · have c_31 : (fm_tag1 B (fm_HF B 2 + i)) = true := fm_bI_t c0
        refine lv_iinc (v := nI (i + 1)) (lv' := [(1, .int (nI (i + 1))), (2, .int (nI (fm_HF B 2 + i))), (0, .ref o)]) hx hb d_FA_tagsHold_36 hl (k := 2) rfl (nI_1 _) (by decide) rfl (fun ls hl => ?_)
        refine lv_goto (tgt := 2) hx hb d_FA_tagsHold_39 (by decide) ?_
        exact ih_2 (i + 1) ls (⟨by omega, by rw [fm_all, hal, Bool.true_and]; first | exact c_31 | exact fm_tag1_0 c_23⟩) (by omega) (lv_sub hl [2, 0] rfl)
      · have c_31 : (fm_tag1 B (fm_HF B 2 + i)) = false := fm_bI_f c0
        refine lv_iconst (v := nI (0)) hx hb d_FA_tagsHold_34 (by decide) ?_
        exact W.zret (ty := .boolean) hx hb hr (rfl) (fun t ht hW => ⟨_, rfl, fm_bI_0 (fm_all_no (k := i) (by omega) c_31), ht⟩) (fun q hq => by cases hq) d_FA_tagsHold_35
theorem d_FA_wayHolds_0 : decode b_FA_wayHolds 0 = .ok (.aload_n 0, 1) := by decide +kernel
theorem d_FA_wayHolds_1 : decode b_FA_wayHolds 1 = .ok (.bipush 6, 2) := by decide +kernel
theorem d_FA_wayHolds_3 : decode b_FA_wayHolds 3 = .ok (.invokevirtual 57, 3) := by decide +kernel
theorem d_FA_wayHolds_6 : decode b_FA_wayHolds 6 = .ok (.istore_n 3, 1) := by decide +kernel
theorem d_FA_wayHolds_7 : decode b_FA_wayHolds 7 = .ok (.iload_n 1, 1) := by decide +kernel
theorem d_FA_wayHolds_8 : decode b_FA_wayHolds 8 = .ok (.iconst 0, 1) := by decide +kernel
theorem d_FA_wayHolds_9 : decode b_FA_wayHolds 9 = .ok (.invokestatic 91, 3) := by decide +kernel
theorem d_FA_wayHolds_12 : decode b_FA_wayHolds 12 = .ok (.istore 4, 2) := by decide +kernel
theorem d_FA_wayHolds_14 : decode b_FA_wayHolds 14 = .ok (.iload 4, 2) := by decide +kernel
theorem d_FA_wayHolds_16 : decode b_FA_wayHolds 16 = .ok (.sipush 128, 3) := by decide +kernel
theorem d_FA_wayHolds_19 : decode b_FA_wayHolds 19 = .ok (.if_icmp .le 17, 3) := by decide +kernel
theorem d_FA_wayHolds_22 : decode b_FA_wayHolds 22 = .ok (.iload_n 1, 1) := by decide +kernel
theorem d_FA_wayHolds_23 : decode b_FA_wayHolds 23 = .ok (.invokestatic 100, 3) := by decide +kernel
theorem d_FA_wayHolds_26 : decode b_FA_wayHolds 26 = .ok (.iload_n 3, 1) := by decide +kernel
theorem d_FA_wayHolds_27 : decode b_FA_wayHolds 27 = .ok (.if_icmp .ge 7, 3) := by decide +kernel
theorem d_FA_wayHolds_30 : decode b_FA_wayHolds 30 = .ok (.iconst 1, 1) := by decide +kernel
theorem d_FA_wayHolds_31 : decode b_FA_wayHolds 31 = .ok (.goto 4, 3) := by decide +kernel
theorem d_FA_wayHolds_34 : decode b_FA_wayHolds 34 = .ok (.iconst 0, 1) := by decide +kernel
theorem d_FA_wayHolds_35 : decode b_FA_wayHolds 35 = .ok (.ireturn, 1) := by decide +kernel
theorem d_FA_wayHolds_36 : decode b_FA_wayHolds 36 = .ok (.iload 4, 2) := by decide +kernel
theorem d_FA_wayHolds_38 : decode b_FA_wayHolds 38 = .ok (.sipush 128, 3) := by decide +kernel
theorem d_FA_wayHolds_41 : decode b_FA_wayHolds 41 = .ok (.if_icmp .eq 13, 3) := by decide +kernel
theorem d_FA_wayHolds_44 : decode b_FA_wayHolds 44 = .ok (.iload_n 2, 1) := by decide +kernel
theorem d_FA_wayHolds_45 : decode b_FA_wayHolds 45 = .ok (.iload 4, 2) := by decide +kernel
theorem d_FA_wayHolds_47 : decode b_FA_wayHolds 47 = .ok (.iadd, 1) := by decide +kernel
theorem d_FA_wayHolds_48 : decode b_FA_wayHolds 48 = .ok (.iconst 1, 1) := by decide +kernel
theorem d_FA_wayHolds_49 : decode b_FA_wayHolds 49 = .ok (.iadd, 1) := by decide +kernel
theorem d_FA_wayHolds_50 : decode b_FA_wayHolds 50 = .ok (.iload_n 3, 1) := by decide +kernel
theorem d_FA_wayHolds_51 : decode b_FA_wayHolds 51 = .ok (.if_icmp .ge 7, 3) := by decide +kernel
theorem d_FA_wayHolds_54 : decode b_FA_wayHolds 54 = .ok (.iconst 1, 1) := by decide +kernel
theorem d_FA_wayHolds_55 : decode b_FA_wayHolds 55 = .ok (.goto 4, 3) := by decide +kernel
theorem d_FA_wayHolds_58 : decode b_FA_wayHolds 58 = .ok (.iconst 0, 1) := by decide +kernel
theorem d_FA_wayHolds_59 : decode b_FA_wayHolds 59 = .ok (.ireturn, 1) := by decide +kernel
set_option maxHeartbeats 4000000 in
set_option maxRecDepth 100000 in
theorem c_FA_wayHolds (l : Launch) (dC : Nat → ClassId) (dI : Nat → Nat → Nat) (o : Nat) (wa : Nat) (sa : Nat) (la : Nat) (sz : Int32) (sc : Int32) (hv : Int32) (cI : ClassId) (B : Nat → Nat) (w : Nat → Int32) (st : Nat → Int32) (ln : Nat → Int32) (k : Nat) (hF : fm_FO B w st ln) (hk : k < fm_WD B 6) : fm_M l (dC, dI) y_FA_wayHolds w_FA_wayHolds ({ frames := 1, cells := 0, slots := 0, locals := 21 }) [.ref o, .int (fm_W B 6 k), .int (nI (k))] [(o, .inr (1, [.ref wa, .ref sa, .ref la, .int (nI (fm_HF B 2)), .int (nI (fm_HF B 3)), .int (sz), .int (sc), .int (hv)])), (wa, .inl (cI, 2048, .inl (w))), (sa, .inl (cI, 10, .inl (st))), (la, .inl (cI, 10, .inl (ln)))] [(cI, .int)] ((fm_bI (fm_way B k))) := by
  refine Met.ofW (cc := b_FA_wayHolds) (maxL := 5) (ret := (some .boolean)) (by decide) rfl ?_
  intro pg ev s m args below meth cd s₁ BD hml hv
  obtain ⟨rfl, hP, hK⟩ := hv
  have hx := BD.exec
  have hb := BD.bytes
  have hr := BD.returns
  have hts := atoms_spec (ws := w_FA_wayHolds) BD.pre
  have ht : ∀ w ∈ fm_T, w.before _ s = true := fun w h => hts w (List.mem_cons_of_mem _ h)
  have hown : s.vm.findClass R_FA = some m.cls := findClass_of_methodNamed BD.named
  have hlocks := BD.notSynchronized
  have S : CallFix pg m cd b_FA_wayHolds 5 s _ w_FA_wayHolds R_FA := ⟨hx, hb, hml, hown, hts⟩
  have hl := lv_entry ([.ref o, .int (fm_W B 6 k), .int (nI (k))]) (n := 5) (Nat.le_of_ble_eq_true rfl)
  rw [lg_entry_eq]
  generalize (lg_sl ([.ref o, .int (fm_W B 6 k), .int (nI (k))]) ++ List.replicate (5 - (lg_sl ([.ref o, .int (fm_W B 6 k), .int (nI (k))])).length) Slot.unset).toArray = ls at hl ⊢
  have hl : lv_has ls 5 [(0, .ref o), (1, .int (fm_W B 6 k)), (2, .int (nI (k)))] := hl
  have hB : ∀ i, B i < 256 := hF.1.1
  obtain ⟨hL, hFw, hFs, hFl⟩ := id hF
  obtain ⟨-, hq, h3, h10⟩ := id hL
  have hw6 := fm_WD_le hB 6
  refine lv_aload_n hx hb d_FA_wayHolds_0 rfl (lv_at hl 0 rfl) ?_
  refine lv_bipush (v := nI (6)) hx hb d_FA_wayHolds_1 (by decide) ?_
  refine fm_cv S (c_FO_lengthOfN l dC dI o wa sa la sz sc hv cI B w st ln 6 (hF) (by omega)) rfl rfl k_FO_lengthOf q_2_58 ⟨Nat.le_of_ble_eq_true rfl, Nat.le_of_ble_eq_true rfl⟩ (hP.sub [0, 1, 2, 3] rfl) (hK.sub [0] rfl) 0 rfl rfl rfl hl.1 rfl (Nat.le_of_ble_eq_true rfl) ⟨Nat.zero_le _, Nat.zero_le _⟩ d_FA_wayHolds_3 ?_
  have f0_3 := fm_WD_le hB 6
  refine lv_istore_n (lv' := [(3, .int (nI (fm_WD B 6))), (0, .ref o), (1, .int (fm_W B 6 k)), (2, .int (nI (k)))]) hx hb d_FA_wayHolds_6 rfl hl (by decide) rfl (fun ls hl => ?_)
  refine lv_iload_n hx hb d_FA_wayHolds_7 rfl (lv_at hl 2 rfl) ?_
  refine lv_iconst (v := nI (0)) hx hb d_FA_wayHolds_8 (by decide) ?_
  refine fm_cs S (c_FO_byteOf l dC dI (fm_W B 6 k) 0 (by omega)) rfl rfl k_FO_byteOf q_2_106 ⟨Nat.le_of_ble_eq_true rfl, Nat.le_of_ble_eq_true rfl⟩ (hP.sub [] rfl) (hK.sub [] rfl) rfl hl.1 rfl (Nat.le_of_ble_eq_true rfl) ⟨Nat.zero_le _, Nat.zero_le _⟩ d_FA_wayHolds_9 ?_
  refine fm_tw (z := nI (fm_AT B 6 k 0)) (by simp only [fm_by_W hB _ _ (show 0 < 4 by decide), fm_by_W hB _ _ (show 1 < 4 by decide), fm_by_W hB _ _ (show 2 < 4 by decide), fm_by_W hB _ _ (show 3 < 4 by decide)]) ?_
  have f0_9 := fm_AT_lt hB 6 k 0
  refine lv_istore (lv' := [(4, .int (nI (fm_AT B 6 k 0))), (3, .int (nI (fm_WD B 6))), (0, .ref o), (1, .int (fm_W B 6 k)), (2, .int (nI (k)))]) hx hb d_FA_wayHolds_12 hl (by decide) rfl (fun ls hl => ?_)
  refine lv_iload hx hb d_FA_wayHolds_14 (lv_at hl 0 rfl) ?_
  refine lv_sipush (v := nI (128)) hx hb d_FA_wayHolds_16 (by decide) ?_
  refine lv_icmp_le (tgt := 36) hx hb d_FA_wayHolds_19 (by decide) (fun c0 => ?_) (fun c0 => ?_)
  · have c_19 : fm_AT B 6 k 0 ≤ 128 := (nI_leI (a := fm_AT B 6 k 0) (b := 128) (by omega) (by omega)).mp c0
    refine lv_iload hx hb d_FA_wayHolds_36 (lv_at hl 0 rfl) ?_
    refine lv_sipush (v := nI (128)) hx hb d_FA_wayHolds_38 (by decide) ?_
    refine lv_icmp_eq (tgt := 54) hx hb d_FA_wayHolds_41 (by decide) (fun c0 => ?_) (fun c0 => ?_)
    · have c_41 : fm_AT B 6 k 0 = 128 := (nI_eq (a := fm_AT B 6 k 0) (b := 128) (by omega) (by omega)).mp c0
      refine lv_iconst (v := nI (1)) hx hb d_FA_wayHolds_54 (by decide) ?_
      refine lv_goto (tgt := 59) hx hb d_FA_wayHolds_55 (by decide) ?_
      exact W.zret (ty := .boolean) hx hb hr (rfl) (fun t ht hW => ⟨_, rfl, by refine fm_bI_1 ?_; rw [fm_way, if_neg (Nat.not_lt.mpr c_19), fm_w3]; first | (rw [decide_eq_true c_41]; rfl) | (rw [decide_eq_true (Nat.lt_of_not_le c_51), Bool.or_true]), ht⟩) (fun q hq => by cases hq) d_FA_wayHolds_59
    · have c_41 : ¬ (fm_AT B 6 k 0 = 128) := fun z => c0 ((nI_eq (a := fm_AT B 6 k 0) (b := 128) (by omega) (by omega)).mpr z)
      refine lv_iload_n hx hb d_FA_wayHolds_44 rfl (lv_at hl 4 rfl) ?_
      refine lv_iload hx hb d_FA_wayHolds_45 (lv_at hl 0 rfl) ?_
      refine lv_iadd hx hb d_FA_wayHolds_47 ?_
      refine fm_tw (z := nI (k + fm_AT B 6 k 0)) (nI_add _ _) ?_
      refine lv_iconst (v := nI (1)) hx hb d_FA_wayHolds_48 (by decide) ?_
      refine lv_iadd hx hb d_FA_wayHolds_49 ?_
      refine fm_tw (z := nI (k + fm_AT B 6 k 0 + 1)) (nI_add _ _) ?_
      refine lv_iload_n hx hb d_FA_wayHolds_50 rfl (lv_at hl 1 rfl) ?_
      refine lv_icmp_ge (tgt := 58) hx hb d_FA_wayHolds_51 (by decide) (fun c0 => ?_) (fun c0 => ?_)
      · have c_51 : fm_WD B 6 ≤ k + fm_AT B 6 k 0 + 1 := (nI_leI (a := fm_WD B 6) (b := k + fm_AT B 6 k 0 + 1) (by omega) (by omega)).mp c0
        refine lv_iconst (v := nI (0)) hx hb d_FA_wayHolds_58 (by decide) ?_
        exact W.zret (ty := .boolean) hx hb hr (rfl) (fun t ht hW => ⟨_, rfl, fm_bI_0 (by rw [fm_way, if_neg (Nat.not_lt.mpr c_19), fm_w3, decide_eq_false c_41, decide_eq_false (Nat.not_lt.mpr c_51)]; rfl), ht⟩) (fun q hq => by cases hq) d_FA_wayHolds_59
      · have c_51 : ¬ (fm_WD B 6 ≤ k + fm_AT B 6 k 0 + 1) := fun z => c0 ((nI_leI (a := fm_WD B 6) (b := k + fm_AT B 6 k 0 + 1) (by omega) (by omega)).mpr z)
        refine lv_iconst (v := nI (1)) hx hb d_FA_wayHolds_54 (by decide) ?_
        refine lv_goto (tgt := 59) hx hb d_FA_wayHolds_55 (by decide) ?_
        exact W.zret (ty := .boolean) hx hb hr (rfl) (fun t ht hW => ⟨_, rfl, by refine fm_bI_1 ?_; rw [fm_way, if_neg (Nat.not_lt.mpr c_19), fm_w3]; first | (rw [decide_eq_true c_41]; rfl) | (rw [decide_eq_true (Nat.lt_of_not_le c_51), Bool.or_true]), ht⟩) (fun q hq => by cases hq) d_FA_wayHolds_59
  · have c_19 : ¬ (fm_AT B 6 k 0 ≤ 128) := fun z => c0 ((nI_leI (a := fm_AT B 6 k 0) (b := 128) (by omega) (by omega)).mpr z)
    refine lv_iload_n hx hb d_FA_wayHolds_22 rfl (lv_at hl 3 rfl) ?_
    refine fm_cs S (c_FO_target l dC dI (fm_W B 6 k) ) rfl rfl k_FO_target q_2_113 ⟨Nat.le_of_ble_eq_true rfl, Nat.le_of_ble_eq_true rfl⟩ (hP.sub [] rfl) (hK.sub [] rfl) rfl hl.1 rfl (Nat.le_of_ble_eq_true rfl) ⟨Nat.zero_le _, Nat.zero_le _⟩ d_FA_wayHolds_23 ?_
    refine fm_tw (z := nI (256 * fm_AT B 6 k 2 + fm_AT B 6 k 3)) (by simp only [fm_by_W hB _ _ (show 0 < 4 by decide), fm_by_W hB _ _ (show 1 < 4 by decide), fm_by_W hB _ _ (show 2 < 4 by decide), fm_by_W hB _ _ (show 3 < 4 by decide)]) ?_
    have f0_23 := fm_AT_lt hB 6 k 2
    have f1_23 := fm_AT_lt hB 6 k 3
    refine lv_iload_n hx hb d_FA_wayHolds_26 rfl (lv_at hl 1 rfl) ?_
    refine lv_icmp_ge (tgt := 34) hx hb d_FA_wayHolds_27 (by decide) (fun c0 => ?_) (fun c0 => ?_)
    · have c_27 : fm_WD B 6 ≤ 256 * fm_AT B 6 k 2 + fm_AT B 6 k 3 := (nI_leI (a := fm_WD B 6) (b := 256 * fm_AT B 6 k 2 + fm_AT B 6 k 3) (by omega) (by omega)).mp c0
      refine lv_iconst (v := nI (0)) hx hb d_FA_wayHolds_34 (by decide) ?_
      exact W.zret (ty := .boolean) hx hb hr (rfl) (fun t ht hW => ⟨_, rfl, fm_bI_0 (by rw [fm_way, if_pos (Nat.lt_of_not_le c_19)]; exact decide_eq_false (Nat.not_lt.mpr c_27)), ht⟩) (fun q hq => by cases hq) d_FA_wayHolds_35
    · have c_27 : ¬ (fm_WD B 6 ≤ 256 * fm_AT B 6 k 2 + fm_AT B 6 k 3) := fun z => c0 ((nI_leI (a := fm_WD B 6) (b := 256 * fm_AT B 6 k 2 + fm_AT B 6 k 3) (by omega) (by omega)).mpr z)
      refine lv_iconst (v := nI (1)) hx hb d_FA_wayHolds_30 (by decide) ?_
      refine lv_goto (tgt := 35) hx hb d_FA_wayHolds_31 (by decide) ?_
      exact W.zret (ty := .boolean) hx hb hr (rfl) (fun t ht hW => ⟨_, rfl, fm_bI_1 (by rw [fm_way, if_pos (Nat.lt_of_not_le c_19)]; exact decide_eq_true (Nat.lt_of_not_le c_27)), ht⟩) (fun q hq => by cases hq) d_FA_wayHolds_35
theorem d_FA_sayingHolds_0 : decode b_FA_sayingHolds 0 = .ok (.iload_n 1, 1) := by decide +kernel
theorem d_FA_sayingHolds_1 : decode b_FA_sayingHolds 1 = .ok (.iconst 0, 1) := by decide +kernel
theorem d_FA_sayingHolds_2 : decode b_FA_sayingHolds 2 = .ok (.invokestatic 91, 3) := by decide +kernel
theorem d_FA_sayingHolds_5 : decode b_FA_sayingHolds 5 = .ok (.sipush 128, 3) := by decide +kernel
theorem d_FA_sayingHolds_8 : decode b_FA_sayingHolds 8 = .ok (.if_icmp .le 5, 3) := by decide +kernel
theorem d_FA_sayingHolds_11 : decode b_FA_sayingHolds 11 = .ok (.iconst 1, 1) := by decide +kernel
theorem d_FA_sayingHolds_12 : decode b_FA_sayingHolds 12 = .ok (.ireturn, 1) := by decide +kernel
theorem d_FA_sayingHolds_13 : decode b_FA_sayingHolds 13 = .ok (.iload_n 1, 1) := by decide +kernel
theorem d_FA_sayingHolds_14 : decode b_FA_sayingHolds 14 = .ok (.iconst 1, 1) := by decide +kernel
theorem d_FA_sayingHolds_15 : decode b_FA_sayingHolds 15 = .ok (.invokestatic 91, 3) := by decide +kernel
theorem d_FA_sayingHolds_18 : decode b_FA_sayingHolds 18 = .ok (.istore_n 2, 1) := by decide +kernel
theorem d_FA_sayingHolds_19 : decode b_FA_sayingHolds 19 = .ok (.aload_n 0, 1) := by decide +kernel
theorem d_FA_sayingHolds_20 : decode b_FA_sayingHolds 20 = .ok (.iload_n 2, 1) := by decide +kernel
theorem d_FA_sayingHolds_21 : decode b_FA_sayingHolds 21 = .ok (.invokevirtual 72, 3) := by decide +kernel
theorem d_FA_sayingHolds_24 : decode b_FA_sayingHolds 24 = .ok (.ifCond .ne 13, 3) := by decide +kernel
theorem d_FA_sayingHolds_27 : decode b_FA_sayingHolds 27 = .ok (.iload_n 2, 1) := by decide +kernel
theorem d_FA_sayingHolds_28 : decode b_FA_sayingHolds 28 = .ok (.aload_n 0, 1) := by decide +kernel
theorem d_FA_sayingHolds_29 : decode b_FA_sayingHolds 29 = .ok (.invokevirtual 103, 3) := by decide +kernel
theorem d_FA_sayingHolds_32 : decode b_FA_sayingHolds 32 = .ok (.if_icmp .eq 5, 3) := by decide +kernel
theorem d_FA_sayingHolds_35 : decode b_FA_sayingHolds 35 = .ok (.iconst 0, 1) := by decide +kernel
theorem d_FA_sayingHolds_36 : decode b_FA_sayingHolds 36 = .ok (.ireturn, 1) := by decide +kernel
theorem d_FA_sayingHolds_37 : decode b_FA_sayingHolds 37 = .ok (.iload_n 1, 1) := by decide +kernel
theorem d_FA_sayingHolds_38 : decode b_FA_sayingHolds 38 = .ok (.invokestatic 107, 3) := by decide +kernel
theorem d_FA_sayingHolds_41 : decode b_FA_sayingHolds 41 = .ok (.istore_n 3, 1) := by decide +kernel
theorem d_FA_sayingHolds_42 : decode b_FA_sayingHolds 42 = .ok (.iload_n 3, 1) := by decide +kernel
theorem d_FA_sayingHolds_43 : decode b_FA_sayingHolds 43 = .ok (.ldc 110, 2) := by decide +kernel
theorem d_FA_sayingHolds_45 : decode b_FA_sayingHolds 45 = .ok (.if_icmp .lt 22, 3) := by decide +kernel
theorem d_FA_sayingHolds_48 : decode b_FA_sayingHolds 48 = .ok (.iload_n 3, 1) := by decide +kernel
theorem d_FA_sayingHolds_49 : decode b_FA_sayingHolds 49 = .ok (.ldc 110, 2) := by decide +kernel
theorem d_FA_sayingHolds_51 : decode b_FA_sayingHolds 51 = .ok (.isub, 1) := by decide +kernel
theorem d_FA_sayingHolds_52 : decode b_FA_sayingHolds 52 = .ok (.aload_n 0, 1) := by decide +kernel
theorem d_FA_sayingHolds_53 : decode b_FA_sayingHolds 53 = .ok (.bipush 7, 2) := by decide +kernel
theorem d_FA_sayingHolds_55 : decode b_FA_sayingHolds 55 = .ok (.invokevirtual 57, 3) := by decide +kernel
theorem d_FA_sayingHolds_58 : decode b_FA_sayingHolds 58 = .ok (.if_icmp .ge 7, 3) := by decide +kernel
theorem d_FA_sayingHolds_61 : decode b_FA_sayingHolds 61 = .ok (.iconst 1, 1) := by decide +kernel
theorem d_FA_sayingHolds_62 : decode b_FA_sayingHolds 62 = .ok (.goto 4, 3) := by decide +kernel
theorem d_FA_sayingHolds_65 : decode b_FA_sayingHolds 65 = .ok (.iconst 0, 1) := by decide +kernel
theorem d_FA_sayingHolds_66 : decode b_FA_sayingHolds 66 = .ok (.ireturn, 1) := by decide +kernel
theorem d_FA_sayingHolds_67 : decode b_FA_sayingHolds 67 = .ok (.aload_n 0, 1) := by decide +kernel
theorem d_FA_sayingHolds_68 : decode b_FA_sayingHolds 68 = .ok (.iload_n 1, 1) := by decide +kernel
theorem d_FA_sayingHolds_69 : decode b_FA_sayingHolds 69 = .ok (.invokestatic 82, 3) := by decide +kernel
theorem d_FA_sayingHolds_72 : decode b_FA_sayingHolds 72 = .ok (.invokevirtual 72, 3) := by decide +kernel
theorem d_FA_sayingHolds_75 : decode b_FA_sayingHolds 75 = .ok (.ireturn, 1) := by decide +kernel
set_option maxHeartbeats 4000000 in
set_option maxRecDepth 100000 in
theorem c_FA_sayingHolds (l : Launch) (dC : Nat → ClassId) (dI : Nat → Nat → Nat) (o : Nat) (wa : Nat) (sa : Nat) (la : Nat) (sz : Int32) (sc : Int32) (hv : Int32) (cI : ClassId) (B : Nat → Nat) (w : Nat → Int32) (st : Nat → Int32) (ln : Nat → Int32) (k : Nat) (hF : fm_FO B w st ln) (hk : k < fm_WD B 6) : fm_M l (dC, dI) y_FA_sayingHolds w_FA_sayingHolds ({ frames := 3, cells := 0, slots := 0, locals := 65 }) [.ref o, .int (fm_W B 6 k)] [(o, .inr (1, [.ref wa, .ref sa, .ref la, .int (nI (fm_HF B 2)), .int (nI (fm_HF B 3)), .int (sz), .int (sc), .int (hv)])), (wa, .inl (cI, 2048, .inl (w))), (sa, .inl (cI, 10, .inl (st))), (la, .inl (cI, 10, .inl (ln)))] [(cI, .int)] ((fm_bI (fm_sayh B k))) := by
  refine Met.ofW (cc := b_FA_sayingHolds) (maxL := 4) (ret := (some .boolean)) (by decide) rfl ?_
  intro pg ev s m args below meth cd s₁ BD hml hv
  obtain ⟨rfl, hP, hK⟩ := hv
  have hx := BD.exec
  have hb := BD.bytes
  have hr := BD.returns
  have hts := atoms_spec (ws := w_FA_sayingHolds) BD.pre
  have ht : ∀ w ∈ fm_T, w.before _ s = true := fun w h => hts w (List.mem_cons_of_mem _ h)
  have hown : s.vm.findClass R_FA = some m.cls := findClass_of_methodNamed BD.named
  have hlocks := BD.notSynchronized
  have S : CallFix pg m cd b_FA_sayingHolds 4 s _ w_FA_sayingHolds R_FA := ⟨hx, hb, hml, hown, hts⟩
  have hl := lv_entry ([.ref o, .int (fm_W B 6 k)]) (n := 4) (Nat.le_of_ble_eq_true rfl)
  rw [lg_entry_eq]
  generalize (lg_sl ([.ref o, .int (fm_W B 6 k)]) ++ List.replicate (4 - (lg_sl ([.ref o, .int (fm_W B 6 k)])).length) Slot.unset).toArray = ls at hl ⊢
  have hl : lv_has ls 4 [(0, .ref o), (1, .int (fm_W B 6 k))] := hl
  have hB : ∀ i, B i < 256 := hF.1.1
  obtain ⟨hL, hFw, hFs, hFl⟩ := id hF
  obtain ⟨-, hq, h3, h10⟩ := id hL
  refine lv_iload_n hx hb d_FA_sayingHolds_0 rfl (lv_at hl 1 rfl) ?_
  refine lv_iconst (v := nI (0)) hx hb d_FA_sayingHolds_1 (by decide) ?_
  refine fm_cs S (c_FO_byteOf l dC dI (fm_W B 6 k) 0 (by omega)) rfl rfl k_FO_byteOf q_2_106 ⟨Nat.le_of_ble_eq_true rfl, Nat.le_of_ble_eq_true rfl⟩ (hP.sub [] rfl) (hK.sub [] rfl) rfl hl.1 rfl (Nat.le_of_ble_eq_true rfl) ⟨Nat.zero_le _, Nat.zero_le _⟩ d_FA_sayingHolds_2 ?_
  refine fm_tw (z := nI (fm_AT B 6 k 0)) (by simp only [fm_by_W hB _ _ (show 0 < 4 by decide), fm_by_W hB _ _ (show 1 < 4 by decide), fm_by_W hB _ _ (show 2 < 4 by decide), fm_by_W hB _ _ (show 3 < 4 by decide)]) ?_
  have f0_2 := fm_AT_lt hB 6 k 0
  refine lv_sipush (v := nI (128)) hx hb d_FA_sayingHolds_5 (by decide) ?_
  refine lv_icmp_le (tgt := 13) hx hb d_FA_sayingHolds_8 (by decide) (fun c0 => ?_) (fun c0 => ?_)
  · have c_8 : fm_AT B 6 k 0 ≤ 128 := (nI_leI (a := fm_AT B 6 k 0) (b := 128) (by omega) (by omega)).mp c0
    refine lv_iload_n hx hb d_FA_sayingHolds_13 rfl (lv_at hl 1 rfl) ?_
    refine lv_iconst (v := nI (1)) hx hb d_FA_sayingHolds_14 (by decide) ?_
    refine fm_cs S (c_FO_byteOf l dC dI (fm_W B 6 k) 1 (by omega)) rfl rfl k_FO_byteOf q_2_106 ⟨Nat.le_of_ble_eq_true rfl, Nat.le_of_ble_eq_true rfl⟩ (hP.sub [] rfl) (hK.sub [] rfl) rfl hl.1 rfl (Nat.le_of_ble_eq_true rfl) ⟨Nat.zero_le _, Nat.zero_le _⟩ d_FA_sayingHolds_15 ?_
    refine fm_tw (z := nI (fm_AT B 6 k 1)) (by simp only [fm_by_W hB _ _ (show 0 < 4 by decide), fm_by_W hB _ _ (show 1 < 4 by decide), fm_by_W hB _ _ (show 2 < 4 by decide), fm_by_W hB _ _ (show 3 < 4 by decide)]) ?_
    have f0_15 := fm_AT_lt hB 6 k 1
    refine lv_istore_n (lv' := [(2, .int (nI (fm_AT B 6 k 1))), (0, .ref o), (1, .int (fm_W B 6 k))]) hx hb d_FA_sayingHolds_18 rfl hl (by decide) rfl (fun ls hl => ?_)
    refine lv_aload_n hx hb d_FA_sayingHolds_19 rfl (lv_at hl 1 rfl) ?_
    refine lv_iload_n hx hb d_FA_sayingHolds_20 rfl (lv_at hl 0 rfl) ?_
    refine fm_cv S (c_FO_isThereN l dC dI o wa sa la sz sc hv cI B w st ln (fm_AT B 6 k 1) (hF) (by omega)) rfl rfl k_FO_isThere q_2_86 ⟨Nat.le_of_ble_eq_true rfl, Nat.le_of_ble_eq_true rfl⟩ (hP.sub [0, 1, 2, 3] rfl) (hK.sub [0] rfl) 0 rfl rfl rfl hl.1 rfl (Nat.le_of_ble_eq_true rfl) ⟨Nat.zero_le _, Nat.zero_le _⟩ d_FA_sayingHolds_21 ?_
    refine lv_if_ne (tgt := 37) hx hb d_FA_sayingHolds_24 (by decide) (fun c0 => ?_) (fun c0 => ?_)
    · have c_24 : (fm_th B (fm_AT B 6 k 1)) = true := fm_bI_t c0
      have hw1 : fm_w1 B k = true := by rw [fm_w1, c_24]; rfl
      refine lv_iload_n hx hb d_FA_sayingHolds_37 rfl (lv_at hl 2 rfl) ?_
      refine fm_cs S (c_FO_saying l dC dI (fm_W B 6 k) ) rfl rfl k_FO_saying q_2_123 ⟨Nat.le_of_ble_eq_true rfl, Nat.le_of_ble_eq_true rfl⟩ (hP.sub [] rfl) (hK.sub [] rfl) rfl hl.1 rfl (Nat.le_of_ble_eq_true rfl) ⟨Nat.zero_le _, Nat.zero_le _⟩ d_FA_sayingHolds_38 ?_
      refine fm_tw (z := nI (256 * fm_AT B 6 k 2 + fm_AT B 6 k 3)) (by simp only [fm_by_W hB _ _ (show 0 < 4 by decide), fm_by_W hB _ _ (show 1 < 4 by decide), fm_by_W hB _ _ (show 2 < 4 by decide), fm_by_W hB _ _ (show 3 < 4 by decide)]) ?_
      have f0_38 := fm_AT_lt hB 6 k 2
      have f1_38 := fm_AT_lt hB 6 k 3
      refine lv_istore_n (lv' := [(3, .int (nI (256 * fm_AT B 6 k 2 + fm_AT B 6 k 3))), (2, .int (nI (fm_AT B 6 k 1))), (0, .ref o), (1, .int (fm_W B 6 k))]) hx hb d_FA_sayingHolds_41 rfl hl (by decide) rfl (fun ls hl => ?_)
      refine lv_iload_n hx hb d_FA_sayingHolds_42 rfl (lv_at hl 0 rfl) ?_
      refine lv_ldc (own := R_FA) (v := nI (32768)) hx hb hown (ht _ q_2_126) d_FA_sayingHolds_43 ?_
      refine lv_icmp_lt (tgt := 67) hx hb d_FA_sayingHolds_45 (by decide) (fun c0 => ?_) (fun c0 => ?_)
      · have c_45 : 256 * fm_AT B 6 k 2 + fm_AT B 6 k 3 < 32768 := (nI_ltI (a := 256 * fm_AT B 6 k 2 + fm_AT B 6 k 3) (b := 32768) (by omega) (by omega)).mp c0
        refine lv_aload_n hx hb d_FA_sayingHolds_67 rfl (lv_at hl 2 rfl) ?_
        refine lv_iload_n hx hb d_FA_sayingHolds_68 rfl (lv_at hl 3 rfl) ?_
        refine fm_cs S (c_FO_rest l dC dI (fm_W B 6 k) ) rfl rfl k_FO_rest q_2_91 ⟨Nat.le_of_ble_eq_true rfl, Nat.le_of_ble_eq_true rfl⟩ (hP.sub [] rfl) (hK.sub [] rfl) rfl hl.1 rfl (Nat.le_of_ble_eq_true rfl) ⟨Nat.zero_le _, Nat.zero_le _⟩ d_FA_sayingHolds_69 ?_
        refine fm_tw (z := nI (fm_AT B 6 k 3)) (by simp only [fm_by_W hB _ _ (show 0 < 4 by decide), fm_by_W hB _ _ (show 1 < 4 by decide), fm_by_W hB _ _ (show 2 < 4 by decide), fm_by_W hB _ _ (show 3 < 4 by decide)]) ?_
        have f0_69 := fm_AT_lt hB 6 k 3
        refine fm_cv S (c_FO_isThereN l dC dI o wa sa la sz sc hv cI B w st ln (fm_AT B 6 k 3) (hF) (by omega)) rfl rfl k_FO_isThere q_2_86 ⟨Nat.le_of_ble_eq_true rfl, Nat.le_of_ble_eq_true rfl⟩ (hP.sub [0, 1, 2, 3] rfl) (hK.sub [0] rfl) 0 rfl rfl rfl hl.1 rfl (Nat.le_of_ble_eq_true rfl) ⟨Nat.zero_le _, Nat.zero_le _⟩ d_FA_sayingHolds_72 ?_
        exact W.zret (ty := .boolean) hx hb hr (fm_bI_z _) (fun t ht hW => ⟨_, rfl, fm_bb (by rw [fm_sayh, if_neg (Nat.not_lt.mpr c_8), hw1, Bool.true_and]; exact (fm_w2_1 (by omega) rfl).symm), ht⟩) (fun q hq => by cases hq) d_FA_sayingHolds_75
      · have c_45 : ¬ (256 * fm_AT B 6 k 2 + fm_AT B 6 k 3 < 32768) := fun z => c0 ((nI_ltI (a := 256 * fm_AT B 6 k 2 + fm_AT B 6 k 3) (b := 32768) (by omega) (by omega)).mpr z)
        refine lv_iload_n hx hb d_FA_sayingHolds_48 rfl (lv_at hl 0 rfl) ?_
        refine lv_ldc (own := R_FA) (v := nI (32768)) hx hb hown (ht _ q_2_126) d_FA_sayingHolds_49 ?_
        refine lv_isub hx hb d_FA_sayingHolds_51 ?_
        refine fm_tw (z := nI (256 * fm_AT B 6 k 2 + fm_AT B 6 k 3 - 32768)) (pk_sub (by omega)) ?_
        refine lv_aload_n hx hb d_FA_sayingHolds_52 rfl (lv_at hl 2 rfl) ?_
        refine lv_bipush (v := nI (7)) hx hb d_FA_sayingHolds_53 (by decide) ?_
        refine fm_cv S (c_FO_lengthOfN l dC dI o wa sa la sz sc hv cI B w st ln 7 (hF) (by omega)) rfl rfl k_FO_lengthOf q_2_58 ⟨Nat.le_of_ble_eq_true rfl, Nat.le_of_ble_eq_true rfl⟩ (hP.sub [0, 1, 2, 3] rfl) (hK.sub [0] rfl) 0 rfl rfl rfl hl.1 rfl (Nat.le_of_ble_eq_true rfl) ⟨Nat.zero_le _, Nat.zero_le _⟩ d_FA_sayingHolds_55 ?_
        have f0_55 := fm_WD_le hB 7
        refine lv_icmp_ge (tgt := 65) hx hb d_FA_sayingHolds_58 (by decide) (fun c0 => ?_) (fun c0 => ?_)
        · have c_58 : fm_WD B 7 ≤ 256 * fm_AT B 6 k 2 + fm_AT B 6 k 3 - 32768 := (nI_leI (a := fm_WD B 7) (b := 256 * fm_AT B 6 k 2 + fm_AT B 6 k 3 - 32768) (by omega) (by omega)).mp c0
          refine lv_iconst (v := nI (0)) hx hb d_FA_sayingHolds_65 (by decide) ?_
          exact W.zret (ty := .boolean) hx hb hr (rfl) (fun t ht hW => ⟨_, rfl, fm_bI_0 (by rw [fm_sayh, if_neg (Nat.not_lt.mpr c_8), hw1, fm_w2_f (by omega) (by omega)]; rfl), ht⟩) (fun q hq => by cases hq) d_FA_sayingHolds_66
        · have c_58 : ¬ (fm_WD B 7 ≤ 256 * fm_AT B 6 k 2 + fm_AT B 6 k 3 - 32768) := fun z => c0 ((nI_leI (a := fm_WD B 7) (b := 256 * fm_AT B 6 k 2 + fm_AT B 6 k 3 - 32768) (by omega) (by omega)).mpr z)
          refine lv_iconst (v := nI (1)) hx hb d_FA_sayingHolds_61 (by decide) ?_
          refine lv_goto (tgt := 66) hx hb d_FA_sayingHolds_62 (by decide) ?_
          exact W.zret (ty := .boolean) hx hb hr (rfl) (fun t ht hW => ⟨_, rfl, fm_bI_1 (by rw [fm_sayh, if_neg (Nat.not_lt.mpr c_8), hw1, fm_w2_t (by omega) (by omega)]; rfl), ht⟩) (fun q hq => by cases hq) d_FA_sayingHolds_66
    · have c_24 : (fm_th B (fm_AT B 6 k 1)) = false := fm_bI_f c0
      refine lv_iload_n hx hb d_FA_sayingHolds_27 rfl (lv_at hl 0 rfl) ?_
      refine lv_aload_n hx hb d_FA_sayingHolds_28 rfl (lv_at hl 1 rfl) ?_
      refine fm_cv S (c_FO_edge l dC dI o wa sa la sz sc hv cI B w st ln (hF)) rfl rfl k_FO_edge q_2_119 ⟨Nat.le_of_ble_eq_true rfl, Nat.le_of_ble_eq_true rfl⟩ (hP.sub [0, 1, 2, 3] rfl) (hK.sub [0] rfl) 0 rfl rfl rfl hl.1 rfl (Nat.le_of_ble_eq_true rfl) ⟨Nat.zero_le _, Nat.zero_le _⟩ d_FA_sayingHolds_29 ?_
      refine lv_icmp_eq (tgt := 37) hx hb d_FA_sayingHolds_32 (by decide) (fun c0 => ?_) (fun c0 => ?_)
      · have c_32 := c0
        have hw1 : fm_w1 B k = true := by rw [fm_w1, decide_eq_true c_32, Bool.or_true]
        refine lv_iload_n hx hb d_FA_sayingHolds_37 rfl (lv_at hl 2 rfl) ?_
        refine fm_cs S (c_FO_saying l dC dI (fm_W B 6 k) ) rfl rfl k_FO_saying q_2_123 ⟨Nat.le_of_ble_eq_true rfl, Nat.le_of_ble_eq_true rfl⟩ (hP.sub [] rfl) (hK.sub [] rfl) rfl hl.1 rfl (Nat.le_of_ble_eq_true rfl) ⟨Nat.zero_le _, Nat.zero_le _⟩ d_FA_sayingHolds_38 ?_
        refine fm_tw (z := nI (256 * fm_AT B 6 k 2 + fm_AT B 6 k 3)) (by simp only [fm_by_W hB _ _ (show 0 < 4 by decide), fm_by_W hB _ _ (show 1 < 4 by decide), fm_by_W hB _ _ (show 2 < 4 by decide), fm_by_W hB _ _ (show 3 < 4 by decide)]) ?_
        have f0_38 := fm_AT_lt hB 6 k 2
        have f1_38 := fm_AT_lt hB 6 k 3
        refine lv_istore_n (lv' := [(3, .int (nI (256 * fm_AT B 6 k 2 + fm_AT B 6 k 3))), (2, .int (nI (fm_AT B 6 k 1))), (0, .ref o), (1, .int (fm_W B 6 k))]) hx hb d_FA_sayingHolds_41 rfl hl (by decide) rfl (fun ls hl => ?_)
        refine lv_iload_n hx hb d_FA_sayingHolds_42 rfl (lv_at hl 0 rfl) ?_
        refine lv_ldc (own := R_FA) (v := nI (32768)) hx hb hown (ht _ q_2_126) d_FA_sayingHolds_43 ?_
        refine lv_icmp_lt (tgt := 67) hx hb d_FA_sayingHolds_45 (by decide) (fun c0 => ?_) (fun c0 => ?_)
        · have c_45 : 256 * fm_AT B 6 k 2 + fm_AT B 6 k 3 < 32768 := (nI_ltI (a := 256 * fm_AT B 6 k 2 + fm_AT B 6 k 3) (b := 32768) (by omega) (by omega)).mp c0
          refine lv_aload_n hx hb d_FA_sayingHolds_67 rfl (lv_at hl 2 rfl) ?_
          refine lv_iload_n hx hb d_FA_sayingHolds_68 rfl (lv_at hl 3 rfl) ?_
          refine fm_cs S (c_FO_rest l dC dI (fm_W B 6 k) ) rfl rfl k_FO_rest q_2_91 ⟨Nat.le_of_ble_eq_true rfl, Nat.le_of_ble_eq_true rfl⟩ (hP.sub [] rfl) (hK.sub [] rfl) rfl hl.1 rfl (Nat.le_of_ble_eq_true rfl) ⟨Nat.zero_le _, Nat.zero_le _⟩ d_FA_sayingHolds_69 ?_
          refine fm_tw (z := nI (fm_AT B 6 k 3)) (by simp only [fm_by_W hB _ _ (show 0 < 4 by decide), fm_by_W hB _ _ (show 1 < 4 by decide), fm_by_W hB _ _ (show 2 < 4 by decide), fm_by_W hB _ _ (show 3 < 4 by decide)]) ?_
          have f0_69 := fm_AT_lt hB 6 k 3
          refine fm_cv S (c_FO_isThereN l dC dI o wa sa la sz sc hv cI B w st ln (fm_AT B 6 k 3) (hF) (by omega)) rfl rfl k_FO_isThere q_2_86 ⟨Nat.le_of_ble_eq_true rfl, Nat.le_of_ble_eq_true rfl⟩ (hP.sub [0, 1, 2, 3] rfl) (hK.sub [0] rfl) 0 rfl rfl rfl hl.1 rfl (Nat.le_of_ble_eq_true rfl) ⟨Nat.zero_le _, Nat.zero_le _⟩ d_FA_sayingHolds_72 ?_
          exact W.zret (ty := .boolean) hx hb hr (fm_bI_z _) (fun t ht hW => ⟨_, rfl, fm_bb (by rw [fm_sayh, if_neg (Nat.not_lt.mpr c_8), hw1, Bool.true_and]; exact (fm_w2_1 (by omega) rfl).symm), ht⟩) (fun q hq => by cases hq) d_FA_sayingHolds_75
        · have c_45 : ¬ (256 * fm_AT B 6 k 2 + fm_AT B 6 k 3 < 32768) := fun z => c0 ((nI_ltI (a := 256 * fm_AT B 6 k 2 + fm_AT B 6 k 3) (b := 32768) (by omega) (by omega)).mpr z)
          refine lv_iload_n hx hb d_FA_sayingHolds_48 rfl (lv_at hl 0 rfl) ?_
          refine lv_ldc (own := R_FA) (v := nI (32768)) hx hb hown (ht _ q_2_126) d_FA_sayingHolds_49 ?_
          refine lv_isub hx hb d_FA_sayingHolds_51 ?_
          refine fm_tw (z := nI (256 * fm_AT B 6 k 2 + fm_AT B 6 k 3 - 32768)) (pk_sub (by omega)) ?_
          refine lv_aload_n hx hb d_FA_sayingHolds_52 rfl (lv_at hl 2 rfl) ?_
          refine lv_bipush (v := nI (7)) hx hb d_FA_sayingHolds_53 (by decide) ?_
          refine fm_cv S (c_FO_lengthOfN l dC dI o wa sa la sz sc hv cI B w st ln 7 (hF) (by omega)) rfl rfl k_FO_lengthOf q_2_58 ⟨Nat.le_of_ble_eq_true rfl, Nat.le_of_ble_eq_true rfl⟩ (hP.sub [0, 1, 2, 3] rfl) (hK.sub [0] rfl) 0 rfl rfl rfl hl.1 rfl (Nat.le_of_ble_eq_true rfl) ⟨Nat.zero_le _, Nat.zero_le _⟩ d_FA_sayingHolds_55 ?_
          have f0_55 := fm_WD_le hB 7
          refine lv_icmp_ge (tgt := 65) hx hb d_FA_sayingHolds_58 (by decide) (fun c0 => ?_) (fun c0 => ?_)
          · have c_58 : fm_WD B 7 ≤ 256 * fm_AT B 6 k 2 + fm_AT B 6 k 3 - 32768 := (nI_leI (a := fm_WD B 7) (b := 256 * fm_AT B 6 k 2 + fm_AT B 6 k 3 - 32768) (by omega) (by omega)).mp c0
            refine lv_iconst (v := nI (0)) hx hb d_FA_sayingHolds_65 (by decide) ?_
            exact W.zret (ty := .boolean) hx hb hr (rfl) (fun t ht hW => ⟨_, rfl, fm_bI_0 (by rw [fm_sayh, if_neg (Nat.not_lt.mpr c_8), hw1, fm_w2_f (by omega) (by omega)]; rfl), ht⟩) (fun q hq => by cases hq) d_FA_sayingHolds_66
          · have c_58 : ¬ (fm_WD B 7 ≤ 256 * fm_AT B 6 k 2 + fm_AT B 6 k 3 - 32768) := fun z => c0 ((nI_leI (a := fm_WD B 7) (b := 256 * fm_AT B 6 k 2 + fm_AT B 6 k 3 - 32768) (by omega) (by omega)).mpr z)
            refine lv_iconst (v := nI (1)) hx hb d_FA_sayingHolds_61 (by decide) ?_
            refine lv_goto (tgt := 66) hx hb d_FA_sayingHolds_62 (by decide) ?_
            exact W.zret (ty := .boolean) hx hb hr (rfl) (fun t ht hW => ⟨_, rfl, fm_bI_1 (by rw [fm_sayh, if_neg (Nat.not_lt.mpr c_8), hw1, fm_w2_t (by omega) (by omega)]; rfl), ht⟩) (fun q hq => by cases hq) d_FA_sayingHolds_66
      · have c_32 := c0
        refine lv_iconst (v := nI (0)) hx hb d_FA_sayingHolds_35 (by decide) ?_
        exact W.zret (ty := .boolean) hx hb hr (rfl) (fun t ht hW => ⟨_, rfl, fm_bI_0 (by rw [fm_sayh, if_neg (Nat.not_lt.mpr c_8), show fm_w1 B k = false by rw [fm_w1, c_24, decide_eq_false c_32]; rfl]; rfl), ht⟩) (fun q hq => by cases hq) d_FA_sayingHolds_36
  · have c_8 : ¬ (fm_AT B 6 k 0 ≤ 128) := fun z => c0 ((nI_leI (a := fm_AT B 6 k 0) (b := 128) (by omega) (by omega)).mpr z)
    refine lv_iconst (v := nI (1)) hx hb d_FA_sayingHolds_11 (by decide) ?_
    exact W.zret (ty := .boolean) hx hb hr (rfl) (fun t ht hW => ⟨_, rfl, fm_bI_1 (by rw [fm_sayh, if_pos (Nat.lt_of_not_le c_8)]), ht⟩) (fun q hq => by cases hq) d_FA_sayingHolds_12
theorem d_FA_programHolds_0 : decode b_FA_programHolds 0 = .ok (.iconst 0, 1) := by decide +kernel
theorem d_FA_programHolds_1 : decode b_FA_programHolds 1 = .ok (.istore_n 1, 1) := by decide +kernel
theorem d_FA_programHolds_2 : decode b_FA_programHolds 2 = .ok (.iload_n 1, 1) := by decide +kernel
theorem d_FA_programHolds_3 : decode b_FA_programHolds 3 = .ok (.aload_n 0, 1) := by decide +kernel
theorem d_FA_programHolds_4 : decode b_FA_programHolds 4 = .ok (.bipush 6, 2) := by decide +kernel
theorem d_FA_programHolds_6 : decode b_FA_programHolds 6 = .ok (.invokevirtual 57, 3) := by decide +kernel
theorem d_FA_programHolds_9 : decode b_FA_programHolds 9 = .ok (.if_icmp .ge 36, 3) := by decide +kernel
theorem d_FA_programHolds_12 : decode b_FA_programHolds 12 = .ok (.aload_n 0, 1) := by decide +kernel
theorem d_FA_programHolds_13 : decode b_FA_programHolds 13 = .ok (.bipush 6, 2) := by decide +kernel
theorem d_FA_programHolds_15 : decode b_FA_programHolds 15 = .ok (.iload_n 1, 1) := by decide +kernel
theorem d_FA_programHolds_16 : decode b_FA_programHolds 16 = .ok (.invokevirtual 29, 3) := by decide +kernel
theorem d_FA_programHolds_19 : decode b_FA_programHolds 19 = .ok (.istore_n 2, 1) := by decide +kernel
theorem d_FA_programHolds_20 : decode b_FA_programHolds 20 = .ok (.aload_n 0, 1) := by decide +kernel
theorem d_FA_programHolds_21 : decode b_FA_programHolds 21 = .ok (.iload_n 2, 1) := by decide +kernel
theorem d_FA_programHolds_22 : decode b_FA_programHolds 22 = .ok (.iload_n 1, 1) := by decide +kernel
theorem d_FA_programHolds_23 : decode b_FA_programHolds 23 = .ok (.invokestatic 94, 3) := by decide +kernel
theorem d_FA_programHolds_26 : decode b_FA_programHolds 26 = .ok (.ifCond .eq 11, 3) := by decide +kernel
theorem d_FA_programHolds_29 : decode b_FA_programHolds 29 = .ok (.aload_n 0, 1) := by decide +kernel
theorem d_FA_programHolds_30 : decode b_FA_programHolds 30 = .ok (.iload_n 2, 1) := by decide +kernel
theorem d_FA_programHolds_31 : decode b_FA_programHolds 31 = .ok (.invokestatic 97, 3) := by decide +kernel
theorem d_FA_programHolds_34 : decode b_FA_programHolds 34 = .ok (.ifCond .ne 5, 3) := by decide +kernel
theorem d_FA_programHolds_37 : decode b_FA_programHolds 37 = .ok (.iconst 0, 1) := by decide +kernel
theorem d_FA_programHolds_38 : decode b_FA_programHolds 38 = .ok (.ireturn, 1) := by decide +kernel
theorem d_FA_programHolds_39 : decode b_FA_programHolds 39 = .ok (.iinc 1 1, 3) := by decide +kernel
theorem d_FA_programHolds_42 : decode b_FA_programHolds 42 = .ok (.goto (-40), 3) := by decide +kernel
theorem d_FA_programHolds_45 : decode b_FA_programHolds 45 = .ok (.iconst 1, 1) := by decide +kernel
theorem d_FA_programHolds_46 : decode b_FA_programHolds 46 = .ok (.ireturn, 1) := by decide +kernel
set_option maxHeartbeats 4000000 in
set_option maxRecDepth 100000 in
theorem c_FA_programHolds (l : Launch) (dC : Nat → ClassId) (dI : Nat → Nat → Nat) (o : Nat) (wa : Nat) (sa : Nat) (la : Nat) (sz : Int32) (sc : Int32) (hv : Int32) (cI : ClassId) (B : Nat → Nat) (w : Nat → Int32) (st : Nat → Int32) (ln : Nat → Int32) (hF : fm_FO B w st ln) : fm_M l (dC, dI) y_FA_programHolds w_FA_programHolds ({ frames := 4, cells := 0, slots := 0, locals := 88 }) [.ref o] [(o, .inr (1, [.ref wa, .ref sa, .ref la, .int (nI (fm_HF B 2)), .int (nI (fm_HF B 3)), .int (sz), .int (sc), .int (hv)])), (wa, .inl (cI, 2048, .inl (w))), (sa, .inl (cI, 10, .inl (st))), (la, .inl (cI, 10, .inl (ln)))] [(cI, .int)] ((fm_bI (fm_all (fm_WD B 6) (fm_word1 B)))) := by
  refine Met.ofW (cc := b_FA_programHolds) (maxL := 3) (ret := (some .boolean)) (by decide) rfl ?_
  intro pg ev s m args below meth cd s₁ BD hml hv
  obtain ⟨rfl, hP, hK⟩ := hv
  have hx := BD.exec
  have hb := BD.bytes
  have hr := BD.returns
  have hts := atoms_spec (ws := w_FA_programHolds) BD.pre
  have ht : ∀ w ∈ fm_T, w.before _ s = true := fun w h => hts w (List.mem_cons_of_mem _ h)
  have hown : s.vm.findClass R_FA = some m.cls := findClass_of_methodNamed BD.named
  have hlocks := BD.notSynchronized
  have S : CallFix pg m cd b_FA_programHolds 3 s _ w_FA_programHolds R_FA := ⟨hx, hb, hml, hown, hts⟩
  have hl := lv_entry ([.ref o]) (n := 3) (Nat.le_of_ble_eq_true rfl)
  rw [lg_entry_eq]
  generalize (lg_sl ([.ref o]) ++ List.replicate (3 - (lg_sl ([.ref o])).length) Slot.unset).toArray = ls at hl ⊢
  have hl : lv_has ls 3 [(0, .ref o)] := hl
  have hB : ∀ i, B i < 256 := hF.1.1
  obtain ⟨hL, hFw, hFs, hFl⟩ := id hF
  obtain ⟨-, hq, h3, h10⟩ := id hL
  have hw6 := fm_WD_le hB 6
  refine lv_iconst (v := nI (0)) hx hb d_FA_programHolds_0 (by decide) ?_
  refine lv_istore_n (lv' := [(1, .int (nI (0))), (0, .ref o)]) hx hb d_FA_programHolds_1 rfl hl (by decide) rfl (fun ls hl => ?_)
  refine fm_loop1 (LV := fun (i : Nat) => [(0, .ref o), (1, .int (nI (i)))]) (I := fun (i : Nat) => i ≤ fm_WD B 6 ∧ fm_all i (fm_word1 B) = true) (μ := fun (i : Nat) => fm_WD B 6 - i) ?_ 0 (⟨Nat.zero_le _, rfl⟩) ls (lv_sub hl [1, 0] rfl)
  intro i hI_2 ih_2 ls hl
  have hl : lv_has ls 3 [(0, .ref o), (1, .int (nI (i)))] := hl
  obtain ⟨hi, hal⟩ := hI_2
  refine lv_iload_n hx hb d_FA_programHolds_2 rfl (lv_at hl 1 rfl) ?_
  refine lv_aload_n hx hb d_FA_programHolds_3 rfl (lv_at hl 0 rfl) ?_
  refine lv_bipush (v := nI (6)) hx hb d_FA_programHolds_4 (by decide) ?_
  refine fm_cv S (c_FO_lengthOfN l dC dI o wa sa la sz sc hv cI B w st ln 6 (hF) (by omega)) rfl rfl k_FO_lengthOf q_2_58 ⟨Nat.le_of_ble_eq_true rfl, Nat.le_of_ble_eq_true rfl⟩ (hP.sub [0, 1, 2, 3] rfl) (hK.sub [0] rfl) 0 rfl rfl rfl hl.1 rfl (Nat.le_of_ble_eq_true rfl) ⟨Nat.zero_le _, Nat.zero_le _⟩ d_FA_programHolds_6 ?_
  have f0_6 := fm_WD_le hB 6
  refine lv_icmp_ge (tgt := 45) hx hb d_FA_programHolds_9 (by decide) (fun c0 => ?_) (fun c0 => ?_)
  · have c_9 : fm_WD B 6 ≤ i := (nI_leI (a := fm_WD B 6) (b := i) (by omega) (by omega)).mp c0
    refine lv_iconst (v := nI (1)) hx hb d_FA_programHolds_45 (by decide) ?_
    exact W.zret (ty := .boolean) hx hb hr (rfl) (fun t ht hW => ⟨_, rfl, fm_bI_1 (by rw [← hal, show i = fm_WD B 6 by omega]), ht⟩) (fun q hq => by cases hq) d_FA_programHolds_46
  · have c_9 : ¬ (fm_WD B 6 ≤ i) := fun z => c0 ((nI_leI (a := fm_WD B 6) (b := i) (by omega) (by omega)).mpr z)
    refine lv_aload_n hx hb d_FA_programHolds_12 rfl (lv_at hl 0 rfl) ?_
    refine lv_bipush (v := nI (6)) hx hb d_FA_programHolds_13 (by decide) ?_
    refine lv_iload_n hx hb d_FA_programHolds_15 rfl (lv_at hl 1 rfl) ?_
    refine fm_cv S (c_FO_wordN l dC dI o wa sa la sz sc hv cI B w st ln 6 i (hF) (by omega) (by omega)) rfl rfl k_FO_word q_2_68 ⟨Nat.le_of_ble_eq_true rfl, Nat.le_of_ble_eq_true rfl⟩ (hP.sub [0, 1, 2, 3] rfl) (hK.sub [0] rfl) 0 rfl rfl rfl hl.1 rfl (Nat.le_of_ble_eq_true rfl) ⟨Nat.zero_le _, Nat.zero_le _⟩ d_FA_programHolds_16 ?_
    refine lv_istore_n (lv' := [(2, .int (fm_W B 6 i)), (0, .ref o), (1, .int (nI (i)))]) hx hb d_FA_programHolds_19 rfl hl (by decide) rfl (fun ls hl => ?_)
    refine lv_aload_n hx hb d_FA_programHolds_20 rfl (lv_at hl 1 rfl) ?_
    refine lv_iload_n hx hb d_FA_programHolds_21 rfl (lv_at hl 0 rfl) ?_
    refine lv_iload_n hx hb d_FA_programHolds_22 rfl (lv_at hl 2 rfl) ?_
    refine fm_cs S (c_FA_wayHolds l dC dI o wa sa la sz sc hv cI B w st ln i (hF) (by omega)) rfl rfl k_FA_wayHolds q_2_110 ⟨Nat.le_of_ble_eq_true rfl, Nat.le_of_ble_eq_true rfl⟩ (hP.sub [0, 1, 2, 3] rfl) (hK.sub [0] rfl) rfl hl.1 rfl (Nat.le_of_ble_eq_true rfl) ⟨Nat.zero_le _, Nat.zero_le _⟩ d_FA_programHolds_23 ?_
    refine lv_if_eq (tgt := 37) hx hb d_FA_programHolds_26 (by decide) (fun c0 => ?_) (fun c0 => ?_)
    · have c_26 : (fm_way B i) = false := fm_bI_f c0
      refine lv_iconst (v := nI (0)) hx hb d_FA_programHolds_37 (by decide) ?_
      exact W.zret (ty := .boolean) hx hb hr (rfl) (fun t ht hW => ⟨_, rfl, by refine fm_bI_0 (fm_all_no (k := i) (by omega) ?_); rw [fm_word1_ws]; first | (rw [c_26]; rfl) | (rw [c_34, Bool.and_false]), ht⟩) (fun q hq => by cases hq) d_FA_programHolds_38
    · have c_26 : (fm_way B i) = true := fm_bI_t c0
      refine lv_aload_n hx hb d_FA_programHolds_29 rfl (lv_at hl 1 rfl) ?_
      refine lv_iload_n hx hb d_FA_programHolds_30 rfl (lv_at hl 0 rfl) ?_
      refine fm_cs S (c_FA_sayingHolds l dC dI o wa sa la sz sc hv cI B w st ln i (hF) (by omega)) rfl rfl k_FA_sayingHolds q_2_116 ⟨Nat.le_of_ble_eq_true rfl, Nat.le_of_ble_eq_true rfl⟩ (hP.sub [0, 1, 2, 3] rfl) (hK.sub [0] rfl) rfl hl.1 rfl (Nat.le_of_ble_eq_true rfl) ⟨Nat.zero_le _, Nat.zero_le _⟩ d_FA_programHolds_31 ?_
      refine lv_if_ne (tgt := 39) hx hb d_FA_programHolds_34 (by decide) (fun c0 => ?_) (fun c0 => ?_)
      · have c_34 : (fm_sayh B i) = true := fm_bI_t c0
        refine lv_iinc (v := nI (i + 1)) (lv' := [(1, .int (nI (i + 1))), (2, .int (fm_W B 6 i)), (0, .ref o)]) hx hb d_FA_programHolds_39 hl (k := 2) rfl (nI_1 _) (by decide) rfl (fun ls hl => ?_)
        refine lv_goto (tgt := 2) hx hb d_FA_programHolds_42 (by decide) ?_
        exact ih_2 (i + 1) ls (⟨by omega, by rw [fm_all, hal, Bool.true_and]; rw [fm_word1_ws, c_26, c_34]; rfl⟩) (by omega) (lv_sub hl [2, 0] rfl)
      · have c_34 : (fm_sayh B i) = false := fm_bI_f c0
        refine lv_iconst (v := nI (0)) hx hb d_FA_programHolds_37 (by decide) ?_
        exact W.zret (ty := .boolean) hx hb hr (rfl) (fun t ht hW => ⟨_, rfl, by refine fm_bI_0 (fm_all_no (k := i) (by omega) ?_); rw [fm_word1_ws]; first | (rw [c_26]; rfl) | (rw [c_34, Bool.and_false]), ht⟩) (fun q hq => by cases hq) d_FA_programHolds_38
theorem d_FA_recipesHold_0 : decode b_FA_recipesHold 0 = .ok (.iconst 0, 1) := by decide +kernel
theorem d_FA_recipesHold_1 : decode b_FA_recipesHold 1 = .ok (.istore_n 1, 1) := by decide +kernel
theorem d_FA_recipesHold_2 : decode b_FA_recipesHold 2 = .ok (.iload_n 1, 1) := by decide +kernel
theorem d_FA_recipesHold_3 : decode b_FA_recipesHold 3 = .ok (.aload_n 0, 1) := by decide +kernel
theorem d_FA_recipesHold_4 : decode b_FA_recipesHold 4 = .ok (.bipush 8, 2) := by decide +kernel
theorem d_FA_recipesHold_6 : decode b_FA_recipesHold 6 = .ok (.invokevirtual 57, 3) := by decide +kernel
theorem d_FA_recipesHold_9 : decode b_FA_recipesHold 9 = .ok (.if_icmp .ge 67, 3) := by decide +kernel
theorem d_FA_recipesHold_12 : decode b_FA_recipesHold 12 = .ok (.aload_n 0, 1) := by decide +kernel
theorem d_FA_recipesHold_13 : decode b_FA_recipesHold 13 = .ok (.bipush 8, 2) := by decide +kernel
theorem d_FA_recipesHold_15 : decode b_FA_recipesHold 15 = .ok (.iload_n 1, 1) := by decide +kernel
theorem d_FA_recipesHold_16 : decode b_FA_recipesHold 16 = .ok (.invokevirtual 29, 3) := by decide +kernel
theorem d_FA_recipesHold_19 : decode b_FA_recipesHold 19 = .ok (.istore_n 2, 1) := by decide +kernel
theorem d_FA_recipesHold_20 : decode b_FA_recipesHold 20 = .ok (.aload_n 0, 1) := by decide +kernel
theorem d_FA_recipesHold_21 : decode b_FA_recipesHold 21 = .ok (.iload_n 2, 1) := by decide +kernel
theorem d_FA_recipesHold_22 : decode b_FA_recipesHold 22 = .ok (.iconst 3, 1) := by decide +kernel
theorem d_FA_recipesHold_23 : decode b_FA_recipesHold 23 = .ok (.invokestatic 91, 3) := by decide +kernel
theorem d_FA_recipesHold_26 : decode b_FA_recipesHold 26 = .ok (.invokevirtual 72, 3) := by decide +kernel
theorem d_FA_recipesHold_29 : decode b_FA_recipesHold 29 = .ok (.ifCond .ne 5, 3) := by decide +kernel
theorem d_FA_recipesHold_32 : decode b_FA_recipesHold 32 = .ok (.iconst 0, 1) := by decide +kernel
theorem d_FA_recipesHold_33 : decode b_FA_recipesHold 33 = .ok (.ireturn, 1) := by decide +kernel
theorem d_FA_recipesHold_34 : decode b_FA_recipesHold 34 = .ok (.iconst 0, 1) := by decide +kernel
theorem d_FA_recipesHold_35 : decode b_FA_recipesHold 35 = .ok (.istore_n 3, 1) := by decide +kernel
theorem d_FA_recipesHold_36 : decode b_FA_recipesHold 36 = .ok (.iload_n 3, 1) := by decide +kernel
theorem d_FA_recipesHold_37 : decode b_FA_recipesHold 37 = .ok (.iconst 3, 1) := by decide +kernel
theorem d_FA_recipesHold_38 : decode b_FA_recipesHold 38 = .ok (.if_icmp .ge 32, 3) := by decide +kernel
theorem d_FA_recipesHold_41 : decode b_FA_recipesHold 41 = .ok (.iload_n 2, 1) := by decide +kernel
theorem d_FA_recipesHold_42 : decode b_FA_recipesHold 42 = .ok (.iload_n 3, 1) := by decide +kernel
theorem d_FA_recipesHold_43 : decode b_FA_recipesHold 43 = .ok (.invokestatic 91, 3) := by decide +kernel
theorem d_FA_recipesHold_46 : decode b_FA_recipesHold 46 = .ok (.istore 4, 2) := by decide +kernel
theorem d_FA_recipesHold_48 : decode b_FA_recipesHold 48 = .ok (.iload 4, 2) := by decide +kernel
theorem d_FA_recipesHold_50 : decode b_FA_recipesHold 50 = .ok (.ifCond .eq 14, 3) := by decide +kernel
theorem d_FA_recipesHold_53 : decode b_FA_recipesHold 53 = .ok (.aload_n 0, 1) := by decide +kernel
theorem d_FA_recipesHold_54 : decode b_FA_recipesHold 54 = .ok (.iload 4, 2) := by decide +kernel
theorem d_FA_recipesHold_56 : decode b_FA_recipesHold 56 = .ok (.invokevirtual 72, 3) := by decide +kernel
theorem d_FA_recipesHold_59 : decode b_FA_recipesHold 59 = .ok (.ifCond .ne 5, 3) := by decide +kernel
theorem d_FA_recipesHold_62 : decode b_FA_recipesHold 62 = .ok (.iconst 0, 1) := by decide +kernel
theorem d_FA_recipesHold_63 : decode b_FA_recipesHold 63 = .ok (.ireturn, 1) := by decide +kernel
theorem d_FA_recipesHold_64 : decode b_FA_recipesHold 64 = .ok (.iinc 3 1, 3) := by decide +kernel
theorem d_FA_recipesHold_67 : decode b_FA_recipesHold 67 = .ok (.goto (-31), 3) := by decide +kernel
theorem d_FA_recipesHold_70 : decode b_FA_recipesHold 70 = .ok (.iinc 1 1, 3) := by decide +kernel
theorem d_FA_recipesHold_73 : decode b_FA_recipesHold 73 = .ok (.goto (-71), 3) := by decide +kernel
theorem d_FA_recipesHold_76 : decode b_FA_recipesHold 76 = .ok (.iconst 1, 1) := by decide +kernel
theorem d_FA_recipesHold_77 : decode b_FA_recipesHold 77 = .ok (.ireturn, 1) := by decide +kernel
set_option maxHeartbeats 4000000 in
set_option maxRecDepth 100000 in
theorem c_FA_recipesHold (l : Launch) (dC : Nat → ClassId) (dI : Nat → Nat → Nat) (o : Nat) (wa : Nat) (sa : Nat) (la : Nat) (sz : Int32) (sc : Int32) (hv : Int32) (cI : ClassId) (B : Nat → Nat) (w : Nat → Int32) (st : Nat → Int32) (ln : Nat → Int32) (hF : fm_FO B w st ln) : fm_M l (dC, dI) y_FA_recipesHold w_FA_recipesHold ({ frames := 3, cells := 0, slots := 0, locals := 65 }) [.ref o] [(o, .inr (1, [.ref wa, .ref sa, .ref la, .int (nI (fm_HF B 2)), .int (nI (fm_HF B 3)), .int (sz), .int (sc), .int (hv)])), (wa, .inl (cI, 2048, .inl (w))), (sa, .inl (cI, 10, .inl (st))), (la, .inl (cI, 10, .inl (ln)))] [(cI, .int)] ((fm_bI (fm_all (fm_WD B 8) (fm_recipe1 B)))) := by
  refine Met.ofW (cc := b_FA_recipesHold) (maxL := 5) (ret := (some .boolean)) (by decide) rfl ?_
  intro pg ev s m args below meth cd s₁ BD hml hv
  obtain ⟨rfl, hP, hK⟩ := hv
  have hx := BD.exec
  have hb := BD.bytes
  have hr := BD.returns
  have hts := atoms_spec (ws := w_FA_recipesHold) BD.pre
  have ht : ∀ w ∈ fm_T, w.before _ s = true := fun w h => hts w (List.mem_cons_of_mem _ h)
  have hown : s.vm.findClass R_FA = some m.cls := findClass_of_methodNamed BD.named
  have hlocks := BD.notSynchronized
  have S : CallFix pg m cd b_FA_recipesHold 5 s _ w_FA_recipesHold R_FA := ⟨hx, hb, hml, hown, hts⟩
  have hl := lv_entry ([.ref o]) (n := 5) (Nat.le_of_ble_eq_true rfl)
  rw [lg_entry_eq]
  generalize (lg_sl ([.ref o]) ++ List.replicate (5 - (lg_sl ([.ref o])).length) Slot.unset).toArray = ls at hl ⊢
  have hl : lv_has ls 5 [(0, .ref o)] := hl
  have hB : ∀ i, B i < 256 := hF.1.1
  obtain ⟨hL, hFw, hFs, hFl⟩ := id hF
  obtain ⟨-, hq, h3, h10⟩ := id hL
  have hw8 := fm_WD_le hB 8
  refine lv_iconst (v := nI (0)) hx hb d_FA_recipesHold_0 (by decide) ?_
  refine lv_istore_n (lv' := [(1, .int (nI (0))), (0, .ref o)]) hx hb d_FA_recipesHold_1 rfl hl (by decide) rfl (fun ls hl => ?_)
  refine fm_loop1 (LV := fun (i : Nat) => [(0, .ref o), (1, .int (nI (i)))]) (I := fun (i : Nat) => i ≤ fm_WD B 8 ∧ fm_all i (fm_recipe1 B) = true) (μ := fun (i : Nat) => fm_WD B 8 - i) ?_ 0 (⟨Nat.zero_le _, rfl⟩) ls (lv_sub hl [1, 0] rfl)
  intro i hI_2 ih_2 ls hl
  have hl : lv_has ls 5 [(0, .ref o), (1, .int (nI (i)))] := hl
  obtain ⟨hi, hal⟩ := hI_2
  refine lv_iload_n hx hb d_FA_recipesHold_2 rfl (lv_at hl 1 rfl) ?_
  refine lv_aload_n hx hb d_FA_recipesHold_3 rfl (lv_at hl 0 rfl) ?_
  refine lv_bipush (v := nI (8)) hx hb d_FA_recipesHold_4 (by decide) ?_
  refine fm_cv S (c_FO_lengthOfN l dC dI o wa sa la sz sc hv cI B w st ln 8 (hF) (by omega)) rfl rfl k_FO_lengthOf q_2_58 ⟨Nat.le_of_ble_eq_true rfl, Nat.le_of_ble_eq_true rfl⟩ (hP.sub [0, 1, 2, 3] rfl) (hK.sub [0] rfl) 0 rfl rfl rfl hl.1 rfl (Nat.le_of_ble_eq_true rfl) ⟨Nat.zero_le _, Nat.zero_le _⟩ d_FA_recipesHold_6 ?_
  have f0_6 := fm_WD_le hB 8
  refine lv_icmp_ge (tgt := 76) hx hb d_FA_recipesHold_9 (by decide) (fun c0 => ?_) (fun c0 => ?_)
  · have c_9 : fm_WD B 8 ≤ i := (nI_leI (a := fm_WD B 8) (b := i) (by omega) (by omega)).mp c0
    refine lv_iconst (v := nI (1)) hx hb d_FA_recipesHold_76 (by decide) ?_
    exact W.zret (ty := .boolean) hx hb hr (rfl) (fun t ht hW => ⟨_, rfl, fm_bI_1 (by rw [← hal, show i = fm_WD B 8 by omega]), ht⟩) (fun q hq => by cases hq) d_FA_recipesHold_77
  · have c_9 : ¬ (fm_WD B 8 ≤ i) := fun z => c0 ((nI_leI (a := fm_WD B 8) (b := i) (by omega) (by omega)).mpr z)
    refine lv_aload_n hx hb d_FA_recipesHold_12 rfl (lv_at hl 0 rfl) ?_
    refine lv_bipush (v := nI (8)) hx hb d_FA_recipesHold_13 (by decide) ?_
    refine lv_iload_n hx hb d_FA_recipesHold_15 rfl (lv_at hl 1 rfl) ?_
    refine fm_cv S (c_FO_wordN l dC dI o wa sa la sz sc hv cI B w st ln 8 i (hF) (by omega) (by omega)) rfl rfl k_FO_word q_2_68 ⟨Nat.le_of_ble_eq_true rfl, Nat.le_of_ble_eq_true rfl⟩ (hP.sub [0, 1, 2, 3] rfl) (hK.sub [0] rfl) 0 rfl rfl rfl hl.1 rfl (Nat.le_of_ble_eq_true rfl) ⟨Nat.zero_le _, Nat.zero_le _⟩ d_FA_recipesHold_16 ?_
    refine lv_istore_n (lv' := [(2, .int (fm_W B 8 i)), (0, .ref o), (1, .int (nI (i)))]) hx hb d_FA_recipesHold_19 rfl hl (by decide) rfl (fun ls hl => ?_)
    refine lv_aload_n hx hb d_FA_recipesHold_20 rfl (lv_at hl 1 rfl) ?_
    refine lv_iload_n hx hb d_FA_recipesHold_21 rfl (lv_at hl 0 rfl) ?_
    refine lv_iconst (v := nI (3)) hx hb d_FA_recipesHold_22 (by decide) ?_
    refine fm_cs S (c_FO_byteOf l dC dI (fm_W B 8 i) 3 (by omega)) rfl rfl k_FO_byteOf q_2_106 ⟨Nat.le_of_ble_eq_true rfl, Nat.le_of_ble_eq_true rfl⟩ (hP.sub [] rfl) (hK.sub [] rfl) rfl hl.1 rfl (Nat.le_of_ble_eq_true rfl) ⟨Nat.zero_le _, Nat.zero_le _⟩ d_FA_recipesHold_23 ?_
    refine fm_tw (z := nI (fm_AT B 8 i 3)) (by simp only [fm_by_W hB _ _ (show 0 < 4 by decide), fm_by_W hB _ _ (show 1 < 4 by decide), fm_by_W hB _ _ (show 2 < 4 by decide), fm_by_W hB _ _ (show 3 < 4 by decide)]) ?_
    have f0_23 := fm_AT_lt hB 8 i 3
    refine fm_cv S (c_FO_isThereN l dC dI o wa sa la sz sc hv cI B w st ln (fm_AT B 8 i 3) (hF) (by omega)) rfl rfl k_FO_isThere q_2_86 ⟨Nat.le_of_ble_eq_true rfl, Nat.le_of_ble_eq_true rfl⟩ (hP.sub [0, 1, 2, 3] rfl) (hK.sub [0] rfl) 0 rfl rfl rfl hl.1 rfl (Nat.le_of_ble_eq_true rfl) ⟨Nat.zero_le _, Nat.zero_le _⟩ d_FA_recipesHold_26 ?_
    refine lv_if_ne (tgt := 34) hx hb d_FA_recipesHold_29 (by decide) (fun c0 => ?_) (fun c0 => ?_)
    · have c_29 : (fm_th B (fm_AT B 8 i 3)) = true := fm_bI_t c0
      refine lv_iconst (v := nI (0)) hx hb d_FA_recipesHold_34 (by decide) ?_
      refine lv_istore_n (lv' := [(3, .int (nI (0))), (2, .int (fm_W B 8 i)), (0, .ref o), (1, .int (nI (i)))]) hx hb d_FA_recipesHold_35 rfl hl (by decide) rfl (fun ls hl => ?_)
      refine fm_loop1 (LV := fun (b : Nat) => [(0, .ref o), (1, .int (nI (i))), (2, .int (fm_W B 8 i)), (3, .int (nI (b)))]) (I := fun (b : Nat) => b ≤ 3 ∧ fm_all b (fm_rec B i) = true) (μ := fun (b : Nat) => 3 - b) ?_ 0 (⟨by decide, rfl⟩) ls (lv_sub hl [2, 3, 1, 0] rfl)
      intro b hI_36 ih_36 ls hl
      have hl : lv_has ls 5 [(0, .ref o), (1, .int (nI (i))), (2, .int (fm_W B 8 i)), (3, .int (nI (b)))] := hl
      obtain ⟨hb3, hal2⟩ := hI_36
      refine lv_iload_n hx hb d_FA_recipesHold_36 rfl (lv_at hl 3 rfl) ?_
      refine lv_iconst (v := nI (3)) hx hb d_FA_recipesHold_37 (by decide) ?_
      refine lv_icmp_ge (tgt := 70) hx hb d_FA_recipesHold_38 (by decide) (fun c0 => ?_) (fun c0 => ?_)
      · have c_38 : 3 ≤ b := (nI_leI (a := 3) (b := b) (by omega) (by omega)).mp c0
        refine lv_iinc (v := nI (i + 1)) (lv' := [(1, .int (nI (i + 1))), (0, .ref o), (2, .int (fm_W B 8 i)), (3, .int (nI (b)))]) hx hb d_FA_recipesHold_70 hl (k := 1) rfl (nI_1 _) (by decide) rfl (fun ls hl => ?_)
        refine lv_goto (tgt := 2) hx hb d_FA_recipesHold_73 (by decide) ?_
        exact ih_2 (i + 1) ls (⟨by omega, by rw [fm_all, hal, Bool.true_and]; rw [fm_recipe1, c_29, ← show b = 3 by omega, hal2]; rfl⟩) (by omega) (lv_sub hl [1, 0] rfl)
      · have c_38 : ¬ (3 ≤ b) := fun z => c0 ((nI_leI (a := 3) (b := b) (by omega) (by omega)).mpr z)
        refine lv_iload_n hx hb d_FA_recipesHold_41 rfl (lv_at hl 2 rfl) ?_
        refine lv_iload_n hx hb d_FA_recipesHold_42 rfl (lv_at hl 3 rfl) ?_
        refine fm_cs S (c_FO_byteOf l dC dI (fm_W B 8 i) b (by omega)) rfl rfl k_FO_byteOf q_2_106 ⟨Nat.le_of_ble_eq_true rfl, Nat.le_of_ble_eq_true rfl⟩ (hP.sub [] rfl) (hK.sub [] rfl) rfl hl.1 rfl (Nat.le_of_ble_eq_true rfl) ⟨Nat.zero_le _, Nat.zero_le _⟩ d_FA_recipesHold_43 ?_
        refine fm_tw (z := nI (fm_AT B 8 i b)) (by rw [fm_by_W hB 8 i (by omega)]) ?_
        have f0_43 := fm_by_lt (fm_W B 8 i) b
        have hab := fm_AT_lt hB 8 i b
        refine lv_istore (lv' := [(4, .int (nI (fm_AT B 8 i b))), (0, .ref o), (1, .int (nI (i))), (2, .int (fm_W B 8 i)), (3, .int (nI (b)))]) hx hb d_FA_recipesHold_46 hl (by decide) rfl (fun ls hl => ?_)
        refine lv_iload hx hb d_FA_recipesHold_48 (lv_at hl 0 rfl) ?_
        refine lv_if_eq (tgt := 64) hx hb d_FA_recipesHold_50 (by decide) (fun c0 => ?_) (fun c0 => ?_)
        · have c_50 : fm_AT B 8 i b = 0 := (nI_eq (a := fm_AT B 8 i b) (b := 0) (by omega) (by omega)).mp c0
          refine lv_iinc (v := nI (b + 1)) (lv' := [(3, .int (nI (b + 1))), (4, .int (nI (fm_AT B 8 i b))), (0, .ref o), (1, .int (nI (i))), (2, .int (fm_W B 8 i))]) hx hb d_FA_recipesHold_64 hl (k := 4) rfl (nI_1 _) (by decide) rfl (fun ls hl => ?_)
          refine lv_goto (tgt := 36) hx hb d_FA_recipesHold_67 (by decide) ?_
          exact ih_36 (b + 1) ls (⟨by omega, by rw [fm_all, hal2, Bool.true_and, fm_rec]; first | (rw [decide_eq_true c_50]; rfl) | (rw [c_59, Bool.or_true])⟩) (by omega) (lv_sub hl [2, 3, 4, 0] rfl)
        · have c_50 : ¬ (fm_AT B 8 i b = 0) := fun z => c0 ((nI_eq (a := fm_AT B 8 i b) (b := 0) (by omega) (by omega)).mpr z)
          refine lv_aload_n hx hb d_FA_recipesHold_53 rfl (lv_at hl 1 rfl) ?_
          refine lv_iload hx hb d_FA_recipesHold_54 (lv_at hl 0 rfl) ?_
          refine fm_cv S (c_FO_isThereN l dC dI o wa sa la sz sc hv cI B w st ln (fm_AT B 8 i b) (hF) (by omega)) rfl rfl k_FO_isThere q_2_86 ⟨Nat.le_of_ble_eq_true rfl, Nat.le_of_ble_eq_true rfl⟩ (hP.sub [0, 1, 2, 3] rfl) (hK.sub [0] rfl) 0 rfl rfl rfl hl.1 rfl (Nat.le_of_ble_eq_true rfl) ⟨Nat.zero_le _, Nat.zero_le _⟩ d_FA_recipesHold_56 ?_
          refine lv_if_ne (tgt := 64) hx hb d_FA_recipesHold_59 (by decide) (fun c0 => ?_) (fun c0 => ?_)
          · have c_59 : (fm_th B (fm_AT B 8 i b)) = true := fm_bI_t c0
            refine lv_iinc (v := nI (b + 1)) (lv' := [(3, .int (nI (b + 1))), (4, .int (nI (fm_AT B 8 i b))), (0, .ref o), (1, .int (nI (i))), (2, .int (fm_W B 8 i))]) hx hb d_FA_recipesHold_64 hl (k := 4) rfl (nI_1 _) (by decide) rfl (fun ls hl => ?_)
            refine lv_goto (tgt := 36) hx hb d_FA_recipesHold_67 (by decide) ?_
            exact ih_36 (b + 1) ls (⟨by omega, by rw [fm_all, hal2, Bool.true_and, fm_rec]; first | (rw [decide_eq_true c_50]; rfl) | (rw [c_59, Bool.or_true])⟩) (by omega) (lv_sub hl [2, 3, 4, 0] rfl)
          · have c_59 : (fm_th B (fm_AT B 8 i b)) = false := fm_bI_f c0
            refine lv_iconst (v := nI (0)) hx hb d_FA_recipesHold_62 (by decide) ?_
            exact W.zret (ty := .boolean) hx hb hr (rfl) (fun t ht hW => ⟨_, rfl, fm_bI_0 (fm_all_no (k := i) (by omega) (by rw [fm_recipe1, fm_all_no (n := 3) (k := b) (by omega) (by rw [fm_rec, decide_eq_false c_50, c_59]; rfl), Bool.and_false])), ht⟩) (fun q hq => by cases hq) d_FA_recipesHold_63
    · have c_29 : (fm_th B (fm_AT B 8 i 3)) = false := fm_bI_f c0
      refine lv_iconst (v := nI (0)) hx hb d_FA_recipesHold_32 (by decide) ?_
      exact W.zret (ty := .boolean) hx hb hr (rfl) (fun t ht hW => ⟨_, rfl, fm_bI_0 (fm_all_no (k := i) (by omega) (by rw [fm_recipe1, c_29]; rfl)), ht⟩) (fun q hq => by cases hq) d_FA_recipesHold_33
theorem d_FA_firstOfParts_0 : decode b_FA_firstOfParts 0 = .ok (.aload_n 0, 1) := by decide +kernel
theorem d_FA_firstOfParts_1 : decode b_FA_firstOfParts 1 = .ok (.iconst 0, 1) := by decide +kernel
theorem d_FA_firstOfParts_2 : decode b_FA_firstOfParts 2 = .ok (.iconst 1, 1) := by decide +kernel
theorem d_FA_firstOfParts_3 : decode b_FA_firstOfParts 3 = .ok (.invokevirtual 29, 3) := by decide +kernel
theorem d_FA_firstOfParts_6 : decode b_FA_firstOfParts 6 = .ok (.ldc 33, 2) := by decide +kernel
theorem d_FA_firstOfParts_8 : decode b_FA_firstOfParts 8 = .ok (.if_icmp .ge 5, 3) := by decide +kernel
theorem d_FA_firstOfParts_11 : decode b_FA_firstOfParts 11 = .ok (.iconst 5, 1) := by decide +kernel
theorem d_FA_firstOfParts_12 : decode b_FA_firstOfParts 12 = .ok (.ireturn, 1) := by decide +kernel
theorem d_FA_firstOfParts_13 : decode b_FA_firstOfParts 13 = .ok (.aload_n 0, 1) := by decide +kernel
theorem d_FA_firstOfParts_14 : decode b_FA_firstOfParts 14 = .ok (.invokestatic 34, 3) := by decide +kernel
theorem d_FA_firstOfParts_17 : decode b_FA_firstOfParts 17 = .ok (.ifCond .ne 6, 3) := by decide +kernel
theorem d_FA_firstOfParts_20 : decode b_FA_firstOfParts 20 = .ok (.bipush 6, 2) := by decide +kernel
theorem d_FA_firstOfParts_22 : decode b_FA_firstOfParts 22 = .ok (.ireturn, 1) := by decide +kernel
theorem d_FA_firstOfParts_23 : decode b_FA_firstOfParts 23 = .ok (.aload_n 0, 1) := by decide +kernel
theorem d_FA_firstOfParts_24 : decode b_FA_firstOfParts 24 = .ok (.invokestatic 37, 3) := by decide +kernel
theorem d_FA_firstOfParts_27 : decode b_FA_firstOfParts 27 = .ok (.ifCond .ne 6, 3) := by decide +kernel
theorem d_FA_firstOfParts_30 : decode b_FA_firstOfParts 30 = .ok (.bipush 7, 2) := by decide +kernel
theorem d_FA_firstOfParts_32 : decode b_FA_firstOfParts 32 = .ok (.ireturn, 1) := by decide +kernel
theorem d_FA_firstOfParts_33 : decode b_FA_firstOfParts 33 = .ok (.aload_n 0, 1) := by decide +kernel
theorem d_FA_firstOfParts_34 : decode b_FA_firstOfParts 34 = .ok (.invokestatic 40, 3) := by decide +kernel
theorem d_FA_firstOfParts_37 : decode b_FA_firstOfParts 37 = .ok (.ifCond .ne 6, 3) := by decide +kernel
theorem d_FA_firstOfParts_40 : decode b_FA_firstOfParts 40 = .ok (.bipush 8, 2) := by decide +kernel
theorem d_FA_firstOfParts_42 : decode b_FA_firstOfParts 42 = .ok (.ireturn, 1) := by decide +kernel
theorem d_FA_firstOfParts_43 : decode b_FA_firstOfParts 43 = .ok (.aload_n 0, 1) := by decide +kernel
theorem d_FA_firstOfParts_44 : decode b_FA_firstOfParts 44 = .ok (.invokestatic 43, 3) := by decide +kernel
theorem d_FA_firstOfParts_47 : decode b_FA_firstOfParts 47 = .ok (.ifCond .ne 6, 3) := by decide +kernel
theorem d_FA_firstOfParts_50 : decode b_FA_firstOfParts 50 = .ok (.bipush 9, 2) := by decide +kernel
theorem d_FA_firstOfParts_52 : decode b_FA_firstOfParts 52 = .ok (.ireturn, 1) := by decide +kernel
theorem d_FA_firstOfParts_53 : decode b_FA_firstOfParts 53 = .ok (.aload_n 0, 1) := by decide +kernel
theorem d_FA_firstOfParts_54 : decode b_FA_firstOfParts 54 = .ok (.invokestatic 46, 3) := by decide +kernel
theorem d_FA_firstOfParts_57 : decode b_FA_firstOfParts 57 = .ok (.ifCond .ne 6, 3) := by decide +kernel
theorem d_FA_firstOfParts_60 : decode b_FA_firstOfParts 60 = .ok (.bipush 10, 2) := by decide +kernel
theorem d_FA_firstOfParts_62 : decode b_FA_firstOfParts 62 = .ok (.ireturn, 1) := by decide +kernel
theorem d_FA_firstOfParts_63 : decode b_FA_firstOfParts 63 = .ok (.aload_n 0, 1) := by decide +kernel
theorem d_FA_firstOfParts_64 : decode b_FA_firstOfParts 64 = .ok (.bipush 9, 2) := by decide +kernel
theorem d_FA_firstOfParts_66 : decode b_FA_firstOfParts 66 = .ok (.iconst 1, 1) := by decide +kernel
theorem d_FA_firstOfParts_67 : decode b_FA_firstOfParts 67 = .ok (.invokestatic 49, 3) := by decide +kernel
theorem d_FA_firstOfParts_70 : decode b_FA_firstOfParts 70 = .ok (.ifCond .eq 7, 3) := by decide +kernel
theorem d_FA_firstOfParts_73 : decode b_FA_firstOfParts 73 = .ok (.iconst 0, 1) := by decide +kernel
theorem d_FA_firstOfParts_74 : decode b_FA_firstOfParts 74 = .ok (.goto 5, 3) := by decide +kernel
theorem d_FA_firstOfParts_77 : decode b_FA_firstOfParts 77 = .ok (.bipush 11, 2) := by decide +kernel
theorem d_FA_firstOfParts_79 : decode b_FA_firstOfParts 79 = .ok (.ireturn, 1) := by decide +kernel
set_option maxHeartbeats 4000000 in
set_option maxRecDepth 100000 in
theorem c_FA_firstOfParts (l : Launch) (dC : Nat → ClassId) (dI : Nat → Nat → Nat) (o : Nat) (wa : Nat) (sa : Nat) (la : Nat) (sz : Int32) (sc : Int32) (hv : Int32) (cI : ClassId) (B : Nat → Nat) (w : Nat → Int32) (st : Nat → Int32) (ln : Nat → Int32) (hF : fm_FO B w st ln) (hd : 1 < fm_WD B 0) (hne : ∀ p, 2 ≤ p → p < 6 → 0 < fm_WD B p) : fm_M l (dC, dI) y_FA_firstOfParts w_FA_firstOfParts ({ frames := 5, cells := 0, slots := 0, locals := 113 }) [.ref o] [(o, .inr (1, [.ref wa, .ref sa, .ref la, .int (nI (fm_HF B 2)), .int (nI (fm_HF B 3)), .int (sz), .int (sc), .int (hv)])), (wa, .inl (cI, 2048, .inl (w))), (sa, .inl (cI, 10, .inl (st))), (la, .inl (cI, 10, .inl (ln)))] [(cI, .int)] (nI (fm_parts B)) := by
  refine Met.ofW (cc := b_FA_firstOfParts) (maxL := 1) (ret := (some .int)) (by decide) rfl ?_
  intro pg ev s m args below meth cd s₁ BD hml hv
  obtain ⟨rfl, hP, hK⟩ := hv
  have hx := BD.exec
  have hb := BD.bytes
  have hr := BD.returns
  have hts := atoms_spec (ws := w_FA_firstOfParts) BD.pre
  have ht : ∀ w ∈ fm_T, w.before _ s = true := fun w h => hts w (List.mem_cons_of_mem _ h)
  have hown : s.vm.findClass R_FA = some m.cls := findClass_of_methodNamed BD.named
  have hlocks := BD.notSynchronized
  have S : CallFix pg m cd b_FA_firstOfParts 1 s _ w_FA_firstOfParts R_FA := ⟨hx, hb, hml, hown, hts⟩
  have hl := lv_entry ([.ref o]) (n := 1) (Nat.le_of_ble_eq_true rfl)
  rw [lg_entry_eq]
  generalize (lg_sl ([.ref o]) ++ List.replicate (1 - (lg_sl ([.ref o])).length) Slot.unset).toArray = ls at hl ⊢
  have hl : lv_has ls 1 [(0, .ref o)] := hl
  have hB : ∀ i, B i < 256 := hF.1.1
  obtain ⟨hL, hFw, hFs, hFl⟩ := id hF
  obtain ⟨-, hq, h3, h10⟩ := id hL
  refine lv_aload_n hx hb d_FA_firstOfParts_0 rfl (lv_at hl 0 rfl) ?_
  refine lv_iconst (v := nI (0)) hx hb d_FA_firstOfParts_1 (by decide) ?_
  refine lv_iconst (v := nI (1)) hx hb d_FA_firstOfParts_2 (by decide) ?_
  refine fm_cv S (c_FO_wordN l dC dI o wa sa la sz sc hv cI B w st ln 0 1 (hF) (by omega) (by omega)) rfl rfl k_FO_word q_2_68 ⟨Nat.le_of_ble_eq_true rfl, Nat.le_of_ble_eq_true rfl⟩ (hP.sub [0, 1, 2, 3] rfl) (hK.sub [0] rfl) 0 rfl rfl rfl hl.1 rfl (Nat.le_of_ble_eq_true rfl) ⟨Nat.zero_le _, Nat.zero_le _⟩ d_FA_firstOfParts_3 ?_
  refine fm_tw (z := (nI (fm_WO B 7))) (rfl) ?_
  refine lv_ldc (own := R_FA) (v := nI (1048576)) hx hb hown (ht _ q_2_69) d_FA_firstOfParts_6 ?_
  refine lv_icmp_ge (tgt := 13) hx hb d_FA_firstOfParts_8 (by decide) (fun c0 => ?_) (fun c0 => ?_)
  · have c_8 := c0
    refine lv_aload_n hx hb d_FA_firstOfParts_13 rfl (lv_at hl 0 rfl) ?_
    refine fm_cs S (c_FA_measuresHavePlaces l dC dI o wa sa la sz sc hv cI B w st ln (hF)) rfl rfl k_FA_measuresHavePlaces q_2_70 ⟨Nat.le_of_ble_eq_true rfl, Nat.le_of_ble_eq_true rfl⟩ (hP.sub [0, 1, 2, 3] rfl) (hK.sub [0] rfl) rfl hl.1 rfl (Nat.le_of_ble_eq_true rfl) ⟨Nat.zero_le _, Nat.zero_le _⟩ d_FA_firstOfParts_14 ?_
    refine lv_if_ne (tgt := 23) hx hb d_FA_firstOfParts_17 (by decide) (fun c0 => ?_) (fun c0 => ?_)
    · have c_17 : (fm_all (fm_WD B 1) (fm_size1 B)) = true := fm_bI_t c0
      refine lv_aload_n hx hb d_FA_firstOfParts_23 rfl (lv_at hl 0 rfl) ?_
      refine fm_cs S (c_FA_tagsHold l dC dI o wa sa la sz sc hv cI B w st ln (hF)) rfl rfl k_FA_tagsHold q_2_83 ⟨Nat.le_of_ble_eq_true rfl, Nat.le_of_ble_eq_true rfl⟩ (hP.sub [0, 1, 2, 3] rfl) (hK.sub [0] rfl) rfl hl.1 rfl (Nat.le_of_ble_eq_true rfl) ⟨Nat.zero_le _, Nat.zero_le _⟩ d_FA_firstOfParts_24 ?_
      refine lv_if_ne (tgt := 33) hx hb d_FA_firstOfParts_27 (by decide) (fun c0 => ?_) (fun c0 => ?_)
      · have c_27 : (fm_all (fm_WD B 1) (fun k => fm_tag1 B (fm_HF B 2 + k))) = true := fm_bI_t c0
        refine lv_aload_n hx hb d_FA_firstOfParts_33 rfl (lv_at hl 0 rfl) ?_
        refine fm_cs S (c_FA_fractionsHold l dC dI o wa sa la sz sc hv cI B w st ln (hF) (hne)) rfl rfl k_FA_fractionsHold q_2_100 ⟨Nat.le_of_ble_eq_true rfl, Nat.le_of_ble_eq_true rfl⟩ (hP.sub [0, 1, 2, 3] rfl) (hK.sub [0] rfl) rfl hl.1 rfl (Nat.le_of_ble_eq_true rfl) ⟨Nat.zero_le _, Nat.zero_le _⟩ d_FA_firstOfParts_34 ?_
        refine lv_if_ne (tgt := 43) hx hb d_FA_firstOfParts_37 (by decide) (fun c0 => ?_) (fun c0 => ?_)
        · have c_37 : (fm_tables B) = true := fm_bI_t c0
          refine lv_aload_n hx hb d_FA_firstOfParts_43 rfl (lv_at hl 0 rfl) ?_
          refine fm_cs S (c_FA_programHolds l dC dI o wa sa la sz sc hv cI B w st ln (hF)) rfl rfl k_FA_programHolds q_2_107 ⟨Nat.le_of_ble_eq_true rfl, Nat.le_of_ble_eq_true rfl⟩ (hP.sub [0, 1, 2, 3] rfl) (hK.sub [0] rfl) rfl hl.1 rfl (Nat.le_of_ble_eq_true rfl) ⟨Nat.zero_le _, Nat.zero_le _⟩ d_FA_firstOfParts_44 ?_
          refine lv_if_ne (tgt := 53) hx hb d_FA_firstOfParts_47 (by decide) (fun c0 => ?_) (fun c0 => ?_)
          · have c_47 : (fm_all (fm_WD B 6) (fm_word1 B)) = true := fm_bI_t c0
            refine lv_aload_n hx hb d_FA_firstOfParts_53 rfl (lv_at hl 0 rfl) ?_
            refine fm_cs S (c_FA_recipesHold l dC dI o wa sa la sz sc hv cI B w st ln (hF)) rfl rfl k_FA_recipesHold q_2_127 ⟨Nat.le_of_ble_eq_true rfl, Nat.le_of_ble_eq_true rfl⟩ (hP.sub [0, 1, 2, 3] rfl) (hK.sub [0] rfl) rfl hl.1 rfl (Nat.le_of_ble_eq_true rfl) ⟨Nat.zero_le _, Nat.zero_le _⟩ d_FA_firstOfParts_54 ?_
            refine lv_if_ne (tgt := 63) hx hb d_FA_firstOfParts_57 (by decide) (fun c0 => ?_) (fun c0 => ?_)
            · have c_57 : (fm_all (fm_WD B 8) (fm_recipe1 B)) = true := fm_bI_t c0
              refine lv_aload_n hx hb d_FA_firstOfParts_63 rfl (lv_at hl 0 rfl) ?_
              refine lv_bipush (v := nI (9)) hx hb d_FA_firstOfParts_64 (by decide) ?_
              refine lv_iconst (v := nI (1)) hx hb d_FA_firstOfParts_66 (by decide) ?_
              refine fm_cs S (c_FA_areFractions l dC dI o wa sa la sz sc hv cI B w st ln 9 1 (hF) (by omega) (by omega)) rfl rfl k_FA_areFractions q_2_103 ⟨Nat.le_of_ble_eq_true rfl, Nat.le_of_ble_eq_true rfl⟩ (hP.sub [0, 1, 2, 3] rfl) (hK.sub [0] rfl) rfl hl.1 rfl (Nat.le_of_ble_eq_true rfl) ⟨Nat.zero_le _, Nat.zero_le _⟩ d_FA_firstOfParts_67 ?_
              refine lv_if_eq (tgt := 77) hx hb d_FA_firstOfParts_70 (by decide) (fun c0 => ?_) (fun c0 => ?_)
              · have c_70 : (fm_fracs B 9 1) = false := fm_bI_f c0
                refine lv_bipush (v := nI (11)) hx hb d_FA_firstOfParts_77 (by decide) ?_
                exact W.iret hx hb hr (fun t ht hW => ⟨_, rfl, by rw [fm_parts, if_neg (Int32.not_lt.mpr c_8), if_neg (by rw [c_17]; decide), if_neg (by rw [c_27]; decide), if_neg (by rw [c_37]; decide), if_neg (by rw [c_47]; decide), if_neg (by rw [c_57]; decide), if_neg (by rw [c_70]; decide)], ht⟩) (fun q hq => by cases hq) d_FA_firstOfParts_79
              · have c_70 : (fm_fracs B 9 1) = true := fm_bI_t c0
                refine lv_iconst (v := nI (0)) hx hb d_FA_firstOfParts_73 (by decide) ?_
                refine lv_goto (tgt := 79) hx hb d_FA_firstOfParts_74 (by decide) ?_
                exact W.iret hx hb hr (fun t ht hW => ⟨_, rfl, by rw [fm_parts, if_neg (Int32.not_lt.mpr c_8), if_neg (by rw [c_17]; decide), if_neg (by rw [c_27]; decide), if_neg (by rw [c_37]; decide), if_neg (by rw [c_47]; decide), if_neg (by rw [c_57]; decide), if_pos c_70], ht⟩) (fun q hq => by cases hq) d_FA_firstOfParts_79
            · have c_57 : (fm_all (fm_WD B 8) (fm_recipe1 B)) = false := fm_bI_f c0
              refine lv_bipush (v := nI (10)) hx hb d_FA_firstOfParts_60 (by decide) ?_
              exact W.iret hx hb hr (fun t ht hW => ⟨_, rfl, by rw [fm_parts, if_neg (Int32.not_lt.mpr c_8), if_neg (by rw [c_17]; decide), if_neg (by rw [c_27]; decide), if_neg (by rw [c_37]; decide), if_neg (by rw [c_47]; decide), if_pos c_57], ht⟩) (fun q hq => by cases hq) d_FA_firstOfParts_62
          · have c_47 : (fm_all (fm_WD B 6) (fm_word1 B)) = false := fm_bI_f c0
            refine lv_bipush (v := nI (9)) hx hb d_FA_firstOfParts_50 (by decide) ?_
            exact W.iret hx hb hr (fun t ht hW => ⟨_, rfl, by rw [fm_parts, if_neg (Int32.not_lt.mpr c_8), if_neg (by rw [c_17]; decide), if_neg (by rw [c_27]; decide), if_neg (by rw [c_37]; decide), if_pos c_47], ht⟩) (fun q hq => by cases hq) d_FA_firstOfParts_52
        · have c_37 : (fm_tables B) = false := fm_bI_f c0
          refine lv_bipush (v := nI (8)) hx hb d_FA_firstOfParts_40 (by decide) ?_
          exact W.iret hx hb hr (fun t ht hW => ⟨_, rfl, by rw [fm_parts, if_neg (Int32.not_lt.mpr c_8), if_neg (by rw [c_17]; decide), if_neg (by rw [c_27]; decide), if_pos c_37], ht⟩) (fun q hq => by cases hq) d_FA_firstOfParts_42
      · have c_27 : (fm_all (fm_WD B 1) (fun k => fm_tag1 B (fm_HF B 2 + k))) = false := fm_bI_f c0
        refine lv_bipush (v := nI (7)) hx hb d_FA_firstOfParts_30 (by decide) ?_
        exact W.iret hx hb hr (fun t ht hW => ⟨_, rfl, by rw [fm_parts, if_neg (Int32.not_lt.mpr c_8), if_neg (by rw [c_17]; decide), if_pos c_27], ht⟩) (fun q hq => by cases hq) d_FA_firstOfParts_32
    · have c_17 : (fm_all (fm_WD B 1) (fm_size1 B)) = false := fm_bI_f c0
      refine lv_bipush (v := nI (6)) hx hb d_FA_firstOfParts_20 (by decide) ?_
      exact W.iret hx hb hr (fun t ht hW => ⟨_, rfl, by rw [fm_parts, if_neg (Int32.not_lt.mpr c_8), if_pos c_17], ht⟩) (fun q hq => by cases hq) d_FA_firstOfParts_22
  · have c_8 := c0
    refine lv_iconst (v := nI (5)) hx hb d_FA_firstOfParts_11 (by decide) ?_
    exact W.iret hx hb hr (fun t ht hW => ⟨_, rfl, by rw [fm_parts, if_pos (Int32.not_le.mp c_8)], ht⟩) (fun q hq => by cases hq) d_FA_firstOfParts_12
