theorem fm_tout_of {x : Int32} {k : Nat} (h : x < 0 ∨ nI k < x) (hk : k < 2 ^ 31 := by decide) : x.toInt < 0 ∨ (k : Int) < x.toInt := by
  rcases h with h | h
  · left; have := Int32.lt_iff_toInt_lt.mp h; simpa using this
  · right; have h1 := Int32.lt_iff_toInt_lt.mp h; rwa [nI_toInt hk] at h1
set_option maxHeartbeats 4000000 in
set_option maxRecDepth 100000 in
theorem x_FM_requireFont (l : Launch) (hl0 : l.stackTraces = false) (dC : Nat → ClassId) (dI : Nat → Nat → Nat) (h : Nat) (bf : Nat) (li : Nat) (ra : Nat) (rl : Int32) (o : Nat) (sp : Nat)  : fm_MT l (dC, dI) y_FM_requireFont w_FM_requireFont ({ frames := 6, cells := 1, slots := 6, locals := 82 }) [.ref h] [(h, .inr (3, [.ref bf, .ref li, .ref ra, .int (rl), .ref o, .ref sp, .int (nI (0))]))] [] fm_IS := by
  refine vx_ofW (cc := b_FM_requireFont) (maxL := 1) (ret := none) (by decide) rfl ?_
  intro pg ev s m args below meth cd s₁ BD hml hout hv
  obtain ⟨rfl, hP, hK, hTh⟩ := hv
  have hx := BD.exec
  have hb := BD.bytes
  have hts := atoms_spec (ws := w_FM_requireFont) BD.pre
  have ht : ∀ w ∈ fm_T, w.before _ s = true := fun w h => hts w (List.mem_cons_of_mem _ h)
  have hown : s.vm.findClass R_FM = some m.cls := findClass_of_methodNamed BD.named
  have hlocks := BD.notSynchronized
  have S : CallFix pg m cd b_FM_requireFont 1 s _ w_FM_requireFont R_FM := ⟨hx, hb, hml, hown, hts⟩
  have hl := lv_entry ([.ref h]) (n := 1) (Nat.le_of_ble_eq_true rfl)
  rw [lg_entry_eq]
  generalize (lg_sl ([.ref h]) ++ List.replicate (1 - (lg_sl ([.ref h])).length) Slot.unset).toArray = ls at hl ⊢
  have hl : lv_has ls 1 [(0, .ref h)] := hl
  refine lv_aload_n hx hb d_FM_requireFont_0 rfl (lv_at hl 0 rfl) ?_
  refine va_get (D := (dC, dI)) (ci := 3) (v := .int (nI (0))) (C := R_FM) (T := F_FM) (N := 7) hx hb ht i_FM hown hK hP 0 rfl rfl 6 (by decide) (ht _ q_1_105) (fun _ h9 => h9) rfl d_FM_requireFont_1 ?_
  refine lv_if_ne (tgt := 17) hx hb d_FM_requireFont_4 (by decide) (fun c0 => ?_) (fun c0 => ?_)
  · have c_4 : ¬ (0 = 0) := fun z => c0 ((nI_eq (a := 0) (b := 0) (by omega) (by omega)).mpr z)
    exact absurd c_4 (by decide)
  · have c_4 : 0 = 0 := (nI_eq (a := 0) (b := 0) (by omega) (by omega)).mp c0
    exact fm_thr (E := fm_IS) (is := 195) (text := "no font is loaded") S hl0 hTh fm_EIS (by decide +kernel) hout hlocks hl.1 d_FM_requireFont_7 d_FM_requireFont_10 d_FM_requireFont_11 d_FM_requireFont_13 d_FM_requireFont_16 ⟨⟨Nat.le_of_ble_eq_true rfl, Nat.le_of_ble_eq_true rfl⟩, Nat.le_of_ble_eq_true rfl, Nat.le_of_ble_eq_true rfl⟩
set_option maxHeartbeats 4000000 in
set_option maxRecDepth 100000 in
theorem x_FM_requireThere (l : Launch) (hl0 : l.stackTraces = false) (dC : Nat → ClassId) (dI : Nat → Nat → Nat) (h : Nat) (bf : Nat) (li : Nat) (ra : Nat) (rl : Int32) (o : Nat) (sp : Nat) (wa : Nat) (sa : Nat) (la : Nat) (s0 : Nat) (cI : ClassId) (B : Nat → Nat) (w : Nat → Int32) (st : Nat → Int32) (ln : Nat → Int32) (x : Int32) (hF : fm_FO B w st ln) (hno : fm_thI B x = false) : fm_MT l (dC, dI) y_FM_requireThere w_FM_requireThere ({ frames := 6, cells := 1, slots := 6, locals := 82 }) [.ref h, .int (x)] [(h, .inr (3, [.ref bf, .ref li, .ref ra, .int (rl), .ref o, .ref sp, .int (nI (1))])), (o, .inr (1, [.ref wa, .ref sa, .ref la, .int (nI (fm_HF B 2)), .int (nI (fm_HF B 3)), .int (nI (s0)), .int (nI (fm_z s0)), .int (nI (fm_h s0))])), (wa, .inl (cI, 2048, .inl (w))), (sa, .inl (cI, 10, .inl (st))), (la, .inl (cI, 10, .inl (ln)))] [(cI, .int)] fm_IO := by
  refine vx_ofW (cc := b_FM_requireThere) (maxL := 2) (ret := none) (by decide) rfl ?_
  intro pg ev s m args below meth cd s₁ BD hml hout hv
  obtain ⟨rfl, hP, hK, hTh⟩ := hv
  have hx := BD.exec
  have hb := BD.bytes
  have hts := atoms_spec (ws := w_FM_requireThere) BD.pre
  have ht : ∀ w ∈ fm_T, w.before _ s = true := fun w h => hts w (List.mem_cons_of_mem _ h)
  have hown : s.vm.findClass R_FM = some m.cls := findClass_of_methodNamed BD.named
  have hlocks := BD.notSynchronized
  have S : CallFix pg m cd b_FM_requireThere 2 s _ w_FM_requireThere R_FM := ⟨hx, hb, hml, hown, hts⟩
  have hl := lv_entry ([.ref h, .int (x)]) (n := 2) (Nat.le_of_ble_eq_true rfl)
  rw [lg_entry_eq]
  generalize (lg_sl ([.ref h, .int (x)]) ++ List.replicate (2 - (lg_sl ([.ref h, .int (x)])).length) Slot.unset).toArray = ls at hl ⊢
  have hl : lv_has ls 2 [(0, .ref h), (1, .int (x))] := hl
  refine lv_aload_n hx hb d_FM_requireThere_0 rfl (lv_at hl 0 rfl) ?_
  refine va_get (D := (dC, dI)) (ci := 3) (v := .ref o) (C := R_FM) (T := F_FM) (N := 7) hx hb ht i_FM hown hK hP 0 rfl rfl 4 (by decide) (ht _ q_1_103) (fun _ h9 => h9) rfl d_FM_requireThere_1 ?_
  refine lv_iload_n hx hb d_FM_requireThere_4 rfl (lv_at hl 1 rfl) ?_
  refine fm_cv S (c_FO_isThere l dC dI o wa sa la (nI (s0)) (nI (fm_z s0)) (nI (fm_h s0)) cI B w st ln x (hF)) rfl rfl k_FO_isThere q_1_145 ⟨Nat.le_of_ble_eq_true rfl, Nat.le_of_ble_eq_true rfl⟩ (hP.sub [1, 2, 3, 4] rfl) (hK.sub [0] rfl) 0 rfl rfl rfl hl.1 rfl (Nat.le_of_ble_eq_true rfl) ⟨Nat.zero_le _, Nat.zero_le _⟩ d_FM_requireThere_5 ?_
  refine lv_if_ne (tgt := 21) hx hb d_FM_requireThere_8 (by decide) (fun c0 => ?_) (fun c0 => ?_)
  · have c_8 : (fm_thI B x) = true := fm_bI_t c0
    exact absurd (c_8.symm.trans hno) (by decide)
  · have c_8 : (fm_thI B x) = false := fm_bI_f c0
    exact fm_thr (E := fm_IO) (is := 198) (text := "the character is not there") S hl0 hTh fm_EIO (by decide +kernel) hout hlocks hl.1 d_FM_requireThere_11 d_FM_requireThere_14 d_FM_requireThere_15 d_FM_requireThere_17 d_FM_requireThere_20 ⟨⟨Nat.le_of_ble_eq_true rfl, Nat.le_of_ble_eq_true rfl⟩, Nat.le_of_ble_eq_true rfl, Nat.le_of_ble_eq_true rfl⟩
set_option maxHeartbeats 4000000 in
set_option maxRecDepth 100000 in
theorem x_FM_requireThereOrEdge (l : Launch) (hl0 : l.stackTraces = false) (dC : Nat → ClassId) (dI : Nat → Nat → Nat) (h : Nat) (bf : Nat) (li : Nat) (ra : Nat) (rl : Int32) (o : Nat) (sp : Nat) (wa : Nat) (sa : Nat) (la : Nat) (s0 : Nat) (cI : ClassId) (B : Nat → Nat) (w : Nat → Int32) (st : Nat → Int32) (ln : Nat → Int32) (x : Int32) (hF : fm_FO B w st ln) (hne : x ≠ nI 256) (hno : fm_thI B x = false) : fm_MT l (dC, dI) y_FM_requireThereOrEdge w_FM_requireThereOrEdge ({ frames := 7, cells := 1, slots := 6, locals := 103 }) [.ref h, .int (x)] [(h, .inr (3, [.ref bf, .ref li, .ref ra, .int (rl), .ref o, .ref sp, .int (nI (1))])), (o, .inr (1, [.ref wa, .ref sa, .ref la, .int (nI (fm_HF B 2)), .int (nI (fm_HF B 3)), .int (nI (s0)), .int (nI (fm_z s0)), .int (nI (fm_h s0))])), (wa, .inl (cI, 2048, .inl (w))), (sa, .inl (cI, 10, .inl (st))), (la, .inl (cI, 10, .inl (ln)))] [(cI, .int)] fm_IO := by
  refine vx_ofW (cc := b_FM_requireThereOrEdge) (maxL := 2) (ret := none) (by decide) rfl ?_
  intro pg ev s m args below meth cd s₁ BD hml hout hv
  obtain ⟨rfl, hP, hK, hTh⟩ := hv
  have hx := BD.exec
  have hb := BD.bytes
  have hts := atoms_spec (ws := w_FM_requireThereOrEdge) BD.pre
  have ht : ∀ w ∈ fm_T, w.before _ s = true := fun w h => hts w (List.mem_cons_of_mem _ h)
  have hown : s.vm.findClass R_FM = some m.cls := findClass_of_methodNamed BD.named
  have hlocks := BD.notSynchronized
  have S : CallFix pg m cd b_FM_requireThereOrEdge 2 s _ w_FM_requireThereOrEdge R_FM := ⟨hx, hb, hml, hown, hts⟩
  have hl := lv_entry ([.ref h, .int (x)]) (n := 2) (Nat.le_of_ble_eq_true rfl)
  rw [lg_entry_eq]
  generalize (lg_sl ([.ref h, .int (x)]) ++ List.replicate (2 - (lg_sl ([.ref h, .int (x)])).length) Slot.unset).toArray = ls at hl ⊢
  have hl : lv_has ls 2 [(0, .ref h), (1, .int (x))] := hl
  refine lv_iload_n hx hb d_FM_requireThereOrEdge_0 rfl (lv_at hl 1 rfl) ?_
  refine lv_sipush (v := nI (256)) hx hb d_FM_requireThereOrEdge_1 (by decide) ?_
  refine lv_icmp_eq (tgt := 12) hx hb d_FM_requireThereOrEdge_4 (by decide) (fun c0 => ?_) (fun c0 => ?_)
  · have c_4 := c0
    exact absurd c_4 hne
  · have c_4 := c0
    refine lv_aload_n hx hb d_FM_requireThereOrEdge_7 rfl (lv_at hl 0 rfl) ?_
    refine lv_iload_n hx hb d_FM_requireThereOrEdge_8 rfl (lv_at hl 1 rfl) ?_
    exact fm_tv S (x_FM_requireThere l hl0 dC dI h bf li ra rl o sp wa sa la s0 cI B w st ln x (hF) (hno)) rfl rfl k_FM_requireThere q_2_203 ⟨Nat.le_of_ble_eq_true rfl, Nat.le_of_ble_eq_true rfl⟩ (hP.sub [0, 1, 2, 3, 4] rfl) (hK.sub [0] rfl) hTh 0 rfl rfl rfl hl.1 rfl (Nat.le_of_ble_eq_true rfl) ⟨Nat.le_of_ble_eq_true rfl, Nat.le_of_ble_eq_true rfl⟩ d_FM_requireThereOrEdge_9 (fun q9 ce H1 h1 h2 h3 h4 h5 => fm_tout hout hlocks h1 h2 h3 h4 h5)
set_option maxHeartbeats 4000000 in
set_option maxRecDepth 100000 in
theorem x_FM_requireItem (l : Launch) (hl0 : l.stackTraces = false) (dC : Nat → ClassId) (dI : Nat → Nat → Nat) (h : Nat) (bf : Nat) (li : Nat) (ra : Nat) (rl : Int32) (o : Nat) (sp : Nat) (ld : Int32) (pa : Nat) (va : Nat) (na : Nat) (le : Int32) (cn : Nat) (x : Int32) (hno : x < 0 ∨ nI cn ≤ x) : fm_MT l (dC, dI) y_FM_requireItem w_FM_requireItem ({ frames := 6, cells := 1, slots := 6, locals := 82 }) [.ref h, .int (x)] [(h, .inr (3, [.ref bf, .ref li, .ref ra, .int (rl), .ref o, .ref sp, .int (ld)])), (li, .inr (2, [.ref pa, .ref va, .ref na, .int (le), .int (nI (cn))]))] [] fm_IO := by
  refine vx_ofW (cc := b_FM_requireItem) (maxL := 2) (ret := none) (by decide) rfl ?_
  intro pg ev s m args below meth cd s₁ BD hml hout hv
  obtain ⟨rfl, hP, hK, hTh⟩ := hv
  have hx := BD.exec
  have hb := BD.bytes
  have hts := atoms_spec (ws := w_FM_requireItem) BD.pre
  have ht : ∀ w ∈ fm_T, w.before _ s = true := fun w h => hts w (List.mem_cons_of_mem _ h)
  have hown : s.vm.findClass R_FM = some m.cls := findClass_of_methodNamed BD.named
  have hlocks := BD.notSynchronized
  have S : CallFix pg m cd b_FM_requireItem 2 s _ w_FM_requireItem R_FM := ⟨hx, hb, hml, hown, hts⟩
  have hl := lv_entry ([.ref h, .int (x)]) (n := 2) (Nat.le_of_ble_eq_true rfl)
  rw [lg_entry_eq]
  generalize (lg_sl ([.ref h, .int (x)]) ++ List.replicate (2 - (lg_sl ([.ref h, .int (x)])).length) Slot.unset).toArray = ls at hl ⊢
  have hl : lv_has ls 2 [(0, .ref h), (1, .int (x))] := hl
  refine lv_iload_n hx hb d_FM_requireItem_0 rfl (lv_at hl 1 rfl) ?_
  refine lv_if_lt (tgt := 15) hx hb d_FM_requireItem_1 (by decide) (fun c0 => ?_) (fun c0 => ?_)
  · have c_1 := c0
    exact fm_thr (E := fm_IO) (is := 200) (text := "no such item") S hl0 hTh fm_EIO (by decide +kernel) hout hlocks hl.1 d_FM_requireItem_15 d_FM_requireItem_18 d_FM_requireItem_19 d_FM_requireItem_21 d_FM_requireItem_24 ⟨⟨Nat.le_of_ble_eq_true rfl, Nat.le_of_ble_eq_true rfl⟩, Nat.le_of_ble_eq_true rfl, Nat.le_of_ble_eq_true rfl⟩
  · have c_1 := c0
    refine lv_iload_n hx hb d_FM_requireItem_4 rfl (lv_at hl 1 rfl) ?_
    refine lv_aload_n hx hb d_FM_requireItem_5 rfl (lv_at hl 0 rfl) ?_
    refine va_get (D := (dC, dI)) (ci := 3) (v := .ref li) (C := R_FM) (T := F_FM) (N := 7) hx hb ht i_FM hown hK hP 0 rfl rfl 1 (by decide) (ht _ q_1_100) (fun _ h9 => h9) rfl d_FM_requireItem_6 ?_
    refine va_get (D := (dC, dI)) (ci := 2) (v := .int (nI (cn))) (C := R_LI) (T := F_LI) (N := 5) hx hb ht i_LI hown hK hP 1 rfl rfl 4 (by decide) (ht _ q_1_50) (fun _ h9 => h9) rfl d_FM_requireItem_9 ?_
    refine lv_icmp_lt (tgt := 25) hx hb d_FM_requireItem_12 (by decide) (fun c0 => ?_) (fun c0 => ?_)
    · have c_12 := c0
      exact absurd (hno.resolve_left c_1) (Int32.not_le.mpr c_12)
    · have c_12 := c0
      exact fm_thr (E := fm_IO) (is := 200) (text := "no such item") S hl0 hTh fm_EIO (by decide +kernel) hout hlocks hl.1 d_FM_requireItem_15 d_FM_requireItem_18 d_FM_requireItem_19 d_FM_requireItem_21 d_FM_requireItem_24 ⟨⟨Nat.le_of_ble_eq_true rfl, Nat.le_of_ble_eq_true rfl⟩, Nat.le_of_ble_eq_true rfl, Nat.le_of_ble_eq_true rfl⟩
set_option maxHeartbeats 4000000 in
set_option maxRecDepth 100000 in
theorem x_FM_load (l : Launch) (hl0 : l.stackTraces = false) (dC : Nat → ClassId) (dI : Nat → Nat → Nat) (h : Nat) (bf : Nat) (li : Nat) (ra : Nat) (rl : Int32) (o : Nat) (sp : Nat) (ld : Int32) (x : Int32) (hno : x < 0 ∨ nI 134217727 < x) : fm_MT l (dC, dI) y_FM_load w_FM_load ({ frames := 6, cells := 1, slots := 6, locals := 82 }) [.ref h, .int (x)] [(h, .inr (3, [.ref bf, .ref li, .ref ra, .int (rl), .ref o, .ref sp, .int (ld)]))] [] fm_IA := by
  refine vx_ofW (cc := b_FM_load) (maxL := 4) (ret := (some .int)) (by decide) rfl ?_
  intro pg ev s m args below meth cd s₁ BD hml hout hv
  obtain ⟨rfl, hP, hK, hTh⟩ := hv
  have hx := BD.exec
  have hb := BD.bytes
  have hts := atoms_spec (ws := w_FM_load) BD.pre
  have ht : ∀ w ∈ fm_T, w.before _ s = true := fun w h => hts w (List.mem_cons_of_mem _ h)
  have hown : s.vm.findClass R_FM = some m.cls := findClass_of_methodNamed BD.named
  have hlocks := BD.notSynchronized
  have S : CallFix pg m cd b_FM_load 4 s _ w_FM_load R_FM := ⟨hx, hb, hml, hown, hts⟩
  have hl := lv_entry ([.ref h, .int (x)]) (n := 4) (Nat.le_of_ble_eq_true rfl)
  rw [lg_entry_eq]
  generalize (lg_sl ([.ref h, .int (x)]) ++ List.replicate (4 - (lg_sl ([.ref h, .int (x)])).length) Slot.unset).toArray = ls at hl ⊢
  have hl : lv_has ls 4 [(0, .ref h), (1, .int (x))] := hl
  refine lv_iload_n hx hb d_FM_load_0 rfl (lv_at hl 1 rfl) ?_
  refine lv_if_lt (tgt := 10) hx hb d_FM_load_1 (by decide) (fun c0 => ?_) (fun c0 => ?_)
  · have c_1 := c0
    exact fm_thr (E := fm_IA) (is := 56) (text := "the size is not 0 .. 134217727") S hl0 hTh fm_EIA (by decide +kernel) hout hlocks hl.1 d_FM_load_10 d_FM_load_13 d_FM_load_14 d_FM_load_16 d_FM_load_19 ⟨⟨Nat.le_of_ble_eq_true rfl, Nat.le_of_ble_eq_true rfl⟩, Nat.le_of_ble_eq_true rfl, Nat.le_of_ble_eq_true rfl⟩
  · have c_1 := c0
    refine lv_iload_n hx hb d_FM_load_4 rfl (lv_at hl 1 rfl) ?_
    refine lv_ldc (own := R_FM) (v := nI (134217727)) hx hb hown (ht _ q_1_200) d_FM_load_5 ?_
    refine lv_icmp_le (tgt := 20) hx hb d_FM_load_7 (by decide) (fun c0 => ?_) (fun c0 => ?_)
    · have c_7 := c0
      exact absurd (hno.resolve_left c_1) (Int32.not_lt.mpr c_7)
    · have c_7 := c0
      exact fm_thr (E := fm_IA) (is := 56) (text := "the size is not 0 .. 134217727") S hl0 hTh fm_EIA (by decide +kernel) hout hlocks hl.1 d_FM_load_10 d_FM_load_13 d_FM_load_14 d_FM_load_16 d_FM_load_19 ⟨⟨Nat.le_of_ble_eq_true rfl, Nat.le_of_ble_eq_true rfl⟩, Nat.le_of_ble_eq_true rfl, Nat.le_of_ble_eq_true rfl⟩
set_option maxHeartbeats 4000000 in
set_option maxRecDepth 100000 in
theorem x_FM_aboutU (l : Launch) (hl0 : l.stackTraces = false) (dC : Nat → ClassId) (dI : Nat → Nat → Nat) (h : Nat) (bf : Nat) (li : Nat) (ra : Nat) (rl : Int32) (o : Nat) (sp : Nat) (x : Int32)  : fm_MT l (dC, dI) y_FM_about w_FM_about ({ frames := 7, cells := 1, slots := 6, locals := 102 }) [.ref h, .int (x)] [(h, .inr (3, [.ref bf, .ref li, .ref ra, .int (rl), .ref o, .ref sp, .int (nI (0))]))] [] fm_IS := by
  refine vx_ofW (cc := b_FM_about) (maxL := 2) (ret := (some .int)) (by decide) rfl ?_
  intro pg ev s m args below meth cd s₁ BD hml hout hv
  obtain ⟨rfl, hP, hK, hTh⟩ := hv
  have hx := BD.exec
  have hb := BD.bytes
  have hts := atoms_spec (ws := w_FM_about) BD.pre
  have ht : ∀ w ∈ fm_T, w.before _ s = true := fun w h => hts w (List.mem_cons_of_mem _ h)
  have hown : s.vm.findClass R_FM = some m.cls := findClass_of_methodNamed BD.named
  have hlocks := BD.notSynchronized
  have S : CallFix pg m cd b_FM_about 2 s _ w_FM_about R_FM := ⟨hx, hb, hml, hown, hts⟩
  have hl := lv_entry ([.ref h, .int (x)]) (n := 2) (Nat.le_of_ble_eq_true rfl)
  rw [lg_entry_eq]
  generalize (lg_sl ([.ref h, .int (x)]) ++ List.replicate (2 - (lg_sl ([.ref h, .int (x)])).length) Slot.unset).toArray = ls at hl ⊢
  have hl : lv_has ls 2 [(0, .ref h), (1, .int (x))] := hl
  refine lv_aload_n hx hb d_FM_about_0 rfl (lv_at hl 0 rfl) ?_
  exact fm_tv S (x_FM_requireFont l hl0 dC dI h bf li ra rl o sp ) rfl rfl k_FM_requireFont q_2_152 ⟨Nat.le_of_ble_eq_true rfl, Nat.le_of_ble_eq_true rfl⟩ (hP.sub [0] rfl) (hK.sub [] rfl) hTh 0 rfl rfl rfl hl.1 rfl (Nat.le_of_ble_eq_true rfl) ⟨Nat.le_of_ble_eq_true rfl, Nat.le_of_ble_eq_true rfl⟩ d_FM_about_1 (fun q9 ce H1 h1 h2 h3 h4 h5 => fm_tout hout hlocks h1 h2 h3 h4 h5)
set_option maxHeartbeats 4000000 in
set_option maxRecDepth 100000 in
theorem x_FM_parameterU (l : Launch) (hl0 : l.stackTraces = false) (dC : Nat → ClassId) (dI : Nat → Nat → Nat) (h : Nat) (bf : Nat) (li : Nat) (ra : Nat) (rl : Int32) (o : Nat) (sp : Nat) (x : Int32)  : fm_MT l (dC, dI) y_FM_parameter w_FM_parameter ({ frames := 7, cells := 1, slots := 6, locals := 102 }) [.ref h, .int (x)] [(h, .inr (3, [.ref bf, .ref li, .ref ra, .int (rl), .ref o, .ref sp, .int (nI (0))]))] [] fm_IS := by
  refine vx_ofW (cc := b_FM_parameter) (maxL := 3) (ret := (some .int)) (by decide) rfl ?_
  intro pg ev s m args below meth cd s₁ BD hml hout hv
  obtain ⟨rfl, hP, hK, hTh⟩ := hv
  have hx := BD.exec
  have hb := BD.bytes
  have hts := atoms_spec (ws := w_FM_parameter) BD.pre
  have ht : ∀ w ∈ fm_T, w.before _ s = true := fun w h => hts w (List.mem_cons_of_mem _ h)
  have hown : s.vm.findClass R_FM = some m.cls := findClass_of_methodNamed BD.named
  have hlocks := BD.notSynchronized
  have S : CallFix pg m cd b_FM_parameter 3 s _ w_FM_parameter R_FM := ⟨hx, hb, hml, hown, hts⟩
  have hl := lv_entry ([.ref h, .int (x)]) (n := 3) (Nat.le_of_ble_eq_true rfl)
  rw [lg_entry_eq]
  generalize (lg_sl ([.ref h, .int (x)]) ++ List.replicate (3 - (lg_sl ([.ref h, .int (x)])).length) Slot.unset).toArray = ls at hl ⊢
  have hl : lv_has ls 3 [(0, .ref h), (1, .int (x))] := hl
  refine lv_aload_n hx hb d_FM_parameter_0 rfl (lv_at hl 0 rfl) ?_
  exact fm_tv S (x_FM_requireFont l hl0 dC dI h bf li ra rl o sp ) rfl rfl k_FM_requireFont q_2_152 ⟨Nat.le_of_ble_eq_true rfl, Nat.le_of_ble_eq_true rfl⟩ (hP.sub [0] rfl) (hK.sub [] rfl) hTh 0 rfl rfl rfl hl.1 rfl (Nat.le_of_ble_eq_true rfl) ⟨Nat.le_of_ble_eq_true rfl, Nat.le_of_ble_eq_true rfl⟩ d_FM_parameter_1 (fun q9 ce H1 h1 h2 h3 h4 h5 => fm_tout hout hlocks h1 h2 h3 h4 h5)
set_option maxHeartbeats 4000000 in
set_option maxRecDepth 100000 in
theorem x_FM_ofU (l : Launch) (hl0 : l.stackTraces = false) (dC : Nat → ClassId) (dI : Nat → Nat → Nat) (h : Nat) (bf : Nat) (li : Nat) (ra : Nat) (rl : Int32) (o : Nat) (sp : Nat) (x : Int32) (y : Int32)  : fm_MT l (dC, dI) y_FM_of w_FM_of ({ frames := 7, cells := 1, slots := 6, locals := 102 }) [.ref h, .int (x), .int (y)] [(h, .inr (3, [.ref bf, .ref li, .ref ra, .int (rl), .ref o, .ref sp, .int (nI (0))]))] [] fm_IS := by
  refine vx_ofW (cc := b_FM_of) (maxL := 3) (ret := (some .int)) (by decide) rfl ?_
  intro pg ev s m args below meth cd s₁ BD hml hout hv
  obtain ⟨rfl, hP, hK, hTh⟩ := hv
  have hx := BD.exec
  have hb := BD.bytes
  have hts := atoms_spec (ws := w_FM_of) BD.pre
  have ht : ∀ w ∈ fm_T, w.before _ s = true := fun w h => hts w (List.mem_cons_of_mem _ h)
  have hown : s.vm.findClass R_FM = some m.cls := findClass_of_methodNamed BD.named
  have hlocks := BD.notSynchronized
  have S : CallFix pg m cd b_FM_of 3 s _ w_FM_of R_FM := ⟨hx, hb, hml, hown, hts⟩
  have hl := lv_entry ([.ref h, .int (x), .int (y)]) (n := 3) (Nat.le_of_ble_eq_true rfl)
  rw [lg_entry_eq]
  generalize (lg_sl ([.ref h, .int (x), .int (y)]) ++ List.replicate (3 - (lg_sl ([.ref h, .int (x), .int (y)])).length) Slot.unset).toArray = ls at hl ⊢
  have hl : lv_has ls 3 [(0, .ref h), (1, .int (x)), (2, .int (y))] := hl
  refine lv_aload_n hx hb d_FM_of_0 rfl (lv_at hl 0 rfl) ?_
  exact fm_tv S (x_FM_requireFont l hl0 dC dI h bf li ra rl o sp ) rfl rfl k_FM_requireFont q_2_152 ⟨Nat.le_of_ble_eq_true rfl, Nat.le_of_ble_eq_true rfl⟩ (hP.sub [0] rfl) (hK.sub [] rfl) hTh 0 rfl rfl rfl hl.1 rfl (Nat.le_of_ble_eq_true rfl) ⟨Nat.le_of_ble_eq_true rfl, Nat.le_of_ble_eq_true rfl⟩ d_FM_of_1 (fun q9 ce H1 h1 h2 h3 h4 h5 => fm_tout hout hlocks h1 h2 h3 h4 h5)
set_option maxHeartbeats 4000000 in
set_option maxRecDepth 100000 in
theorem x_FM_partU (l : Launch) (hl0 : l.stackTraces = false) (dC : Nat → ClassId) (dI : Nat → Nat → Nat) (h : Nat) (bf : Nat) (li : Nat) (ra : Nat) (rl : Int32) (o : Nat) (sp : Nat) (x : Int32) (y : Int32)  : fm_MT l (dC, dI) y_FM_part w_FM_part ({ frames := 7, cells := 1, slots := 6, locals := 102 }) [.ref h, .int (x), .int (y)] [(h, .inr (3, [.ref bf, .ref li, .ref ra, .int (rl), .ref o, .ref sp, .int (nI (0))]))] [] fm_IS := by
  refine vx_ofW (cc := b_FM_part) (maxL := 4) (ret := (some .int)) (by decide) rfl ?_
  intro pg ev s m args below meth cd s₁ BD hml hout hv
  obtain ⟨rfl, hP, hK, hTh⟩ := hv
  have hx := BD.exec
  have hb := BD.bytes
  have hts := atoms_spec (ws := w_FM_part) BD.pre
  have ht : ∀ w ∈ fm_T, w.before _ s = true := fun w h => hts w (List.mem_cons_of_mem _ h)
  have hown : s.vm.findClass R_FM = some m.cls := findClass_of_methodNamed BD.named
  have hlocks := BD.notSynchronized
  have S : CallFix pg m cd b_FM_part 4 s _ w_FM_part R_FM := ⟨hx, hb, hml, hown, hts⟩
  have hl := lv_entry ([.ref h, .int (x), .int (y)]) (n := 4) (Nat.le_of_ble_eq_true rfl)
  rw [lg_entry_eq]
  generalize (lg_sl ([.ref h, .int (x), .int (y)]) ++ List.replicate (4 - (lg_sl ([.ref h, .int (x), .int (y)])).length) Slot.unset).toArray = ls at hl ⊢
  have hl : lv_has ls 4 [(0, .ref h), (1, .int (x)), (2, .int (y))] := hl
  refine lv_aload_n hx hb d_FM_part_0 rfl (lv_at hl 0 rfl) ?_
  exact fm_tv S (x_FM_requireFont l hl0 dC dI h bf li ra rl o sp ) rfl rfl k_FM_requireFont q_2_152 ⟨Nat.le_of_ble_eq_true rfl, Nat.le_of_ble_eq_true rfl⟩ (hP.sub [0] rfl) (hK.sub [] rfl) hTh 0 rfl rfl rfl hl.1 rfl (Nat.le_of_ble_eq_true rfl) ⟨Nat.le_of_ble_eq_true rfl, Nat.le_of_ble_eq_true rfl⟩ d_FM_part_1 (fun q9 ce H1 h1 h2 h3 h4 h5 => fm_tout hout hlocks h1 h2 h3 h4 h5)
set_option maxHeartbeats 4000000 in
set_option maxRecDepth 100000 in
theorem x_FM_askU (l : Launch) (hl0 : l.stackTraces = false) (dC : Nat → ClassId) (dI : Nat → Nat → Nat) (h : Nat) (bf : Nat) (li : Nat) (ra : Nat) (rl : Int32) (o : Nat) (sp : Nat) (x : Int32) (y : Int32)  : fm_MT l (dC, dI) y_FM_ask w_FM_ask ({ frames := 7, cells := 1, slots := 6, locals := 102 }) [.ref h, .int (x), .int (y)] [(h, .inr (3, [.ref bf, .ref li, .ref ra, .int (rl), .ref o, .ref sp, .int (nI (0))]))] [] fm_IS := by
  refine vx_ofW (cc := b_FM_ask) (maxL := 3) (ret := (some .int)) (by decide) rfl ?_
  intro pg ev s m args below meth cd s₁ BD hml hout hv
  obtain ⟨rfl, hP, hK, hTh⟩ := hv
  have hx := BD.exec
  have hb := BD.bytes
  have hts := atoms_spec (ws := w_FM_ask) BD.pre
  have ht : ∀ w ∈ fm_T, w.before _ s = true := fun w h => hts w (List.mem_cons_of_mem _ h)
  have hown : s.vm.findClass R_FM = some m.cls := findClass_of_methodNamed BD.named
  have hlocks := BD.notSynchronized
  have S : CallFix pg m cd b_FM_ask 3 s _ w_FM_ask R_FM := ⟨hx, hb, hml, hown, hts⟩
  have hl := lv_entry ([.ref h, .int (x), .int (y)]) (n := 3) (Nat.le_of_ble_eq_true rfl)
  rw [lg_entry_eq]
  generalize (lg_sl ([.ref h, .int (x), .int (y)]) ++ List.replicate (3 - (lg_sl ([.ref h, .int (x), .int (y)])).length) Slot.unset).toArray = ls at hl ⊢
  have hl : lv_has ls 3 [(0, .ref h), (1, .int (x)), (2, .int (y))] := hl
  refine lv_aload_n hx hb d_FM_ask_0 rfl (lv_at hl 0 rfl) ?_
  exact fm_tv S (x_FM_requireFont l hl0 dC dI h bf li ra rl o sp ) rfl rfl k_FM_requireFont q_2_152 ⟨Nat.le_of_ble_eq_true rfl, Nat.le_of_ble_eq_true rfl⟩ (hP.sub [0] rfl) (hK.sub [] rfl) hTh 0 rfl rfl rfl hl.1 rfl (Nat.le_of_ble_eq_true rfl) ⟨Nat.le_of_ble_eq_true rfl, Nat.le_of_ble_eq_true rfl⟩ d_FM_ask_1 (fun q9 ce H1 h1 h2 h3 h4 h5 => fm_tout hout hlocks h1 h2 h3 h4 h5)
set_option maxHeartbeats 4000000 in
set_option maxRecDepth 100000 in
theorem x_FM_setU (l : Launch) (hl0 : l.stackTraces = false) (dC : Nat → ClassId) (dI : Nat → Nat → Nat) (h : Nat) (bf : Nat) (li : Nat) (ra : Nat) (rl : Int32) (o : Nat) (sp : Nat)  : fm_MT l (dC, dI) y_FM_set w_FM_set ({ frames := 7, cells := 1, slots := 6, locals := 102 }) [.ref h] [(h, .inr (3, [.ref bf, .ref li, .ref ra, .int (rl), .ref o, .ref sp, .int (nI (0))]))] [] fm_IS := by
  refine vx_ofW (cc := b_FM_set) (maxL := 1) (ret := (some .int)) (by decide) rfl ?_
  intro pg ev s m args below meth cd s₁ BD hml hout hv
  obtain ⟨rfl, hP, hK, hTh⟩ := hv
  have hx := BD.exec
  have hb := BD.bytes
  have hts := atoms_spec (ws := w_FM_set) BD.pre
  have ht : ∀ w ∈ fm_T, w.before _ s = true := fun w h => hts w (List.mem_cons_of_mem _ h)
  have hown : s.vm.findClass R_FM = some m.cls := findClass_of_methodNamed BD.named
  have hlocks := BD.notSynchronized
  have S : CallFix pg m cd b_FM_set 1 s _ w_FM_set R_FM := ⟨hx, hb, hml, hown, hts⟩
  have hl := lv_entry ([.ref h]) (n := 1) (Nat.le_of_ble_eq_true rfl)
  rw [lg_entry_eq]
  generalize (lg_sl ([.ref h]) ++ List.replicate (1 - (lg_sl ([.ref h])).length) Slot.unset).toArray = ls at hl ⊢
  have hl : lv_has ls 1 [(0, .ref h)] := hl
  refine lv_aload_n hx hb d_FM_set_0 rfl (lv_at hl 0 rfl) ?_
  exact fm_tv S (x_FM_requireFont l hl0 dC dI h bf li ra rl o sp ) rfl rfl k_FM_requireFont q_2_152 ⟨Nat.le_of_ble_eq_true rfl, Nat.le_of_ble_eq_true rfl⟩ (hP.sub [0] rfl) (hK.sub [] rfl) hTh 0 rfl rfl rfl hl.1 rfl (Nat.le_of_ble_eq_true rfl) ⟨Nat.le_of_ble_eq_true rfl, Nat.le_of_ble_eq_true rfl⟩ d_FM_set_1 (fun q9 ce H1 h1 h2 h3 h4 h5 => fm_tout hout hlocks h1 h2 h3 h4 h5)
set_option maxHeartbeats 4000000 in
set_option maxRecDepth 100000 in
theorem x_FM_isKern (l : Launch) (hl0 : l.stackTraces = false) (dC : Nat → ClassId) (dI : Nat → Nat → Nat) (h : Nat) (bf : Nat) (li : Nat) (ra : Nat) (rl : Int32) (o : Nat) (sp : Nat) (ld : Int32) (pa : Nat) (va : Nat) (na : Nat) (le : Int32) (cn : Nat) (x : Int32) (hno : x < 0 ∨ nI cn ≤ x) : fm_MT l (dC, dI) y_FM_isKern w_FM_isKern ({ frames := 7, cells := 1, slots := 6, locals := 103 }) [.ref h, .int (x)] [(h, .inr (3, [.ref bf, .ref li, .ref ra, .int (rl), .ref o, .ref sp, .int (ld)])), (li, .inr (2, [.ref pa, .ref va, .ref na, .int (le), .int (nI (cn))]))] [] fm_IO := by
  refine vx_ofW (cc := b_FM_isKern) (maxL := 2) (ret := (some .boolean)) (by decide) rfl ?_
  intro pg ev s m args below meth cd s₁ BD hml hout hv
  obtain ⟨rfl, hP, hK, hTh⟩ := hv
  have hx := BD.exec
  have hb := BD.bytes
  have hts := atoms_spec (ws := w_FM_isKern) BD.pre
  have ht : ∀ w ∈ fm_T, w.before _ s = true := fun w h => hts w (List.mem_cons_of_mem _ h)
  have hown : s.vm.findClass R_FM = some m.cls := findClass_of_methodNamed BD.named
  have hlocks := BD.notSynchronized
  have S : CallFix pg m cd b_FM_isKern 2 s _ w_FM_isKern R_FM := ⟨hx, hb, hml, hown, hts⟩
  have hl := lv_entry ([.ref h, .int (x)]) (n := 2) (Nat.le_of_ble_eq_true rfl)
  rw [lg_entry_eq]
  generalize (lg_sl ([.ref h, .int (x)]) ++ List.replicate (2 - (lg_sl ([.ref h, .int (x)])).length) Slot.unset).toArray = ls at hl ⊢
  have hl : lv_has ls 2 [(0, .ref h), (1, .int (x))] := hl
  refine lv_aload_n hx hb d_FM_isKern_0 rfl (lv_at hl 0 rfl) ?_
  refine lv_iload_n hx hb d_FM_isKern_1 rfl (lv_at hl 1 rfl) ?_
  exact fm_tv S (x_FM_requireItem l hl0 dC dI h bf li ra rl o sp ld pa va na le cn x (hno)) rfl rfl k_FM_requireItem q_3_93 ⟨Nat.le_of_ble_eq_true rfl, Nat.le_of_ble_eq_true rfl⟩ (hP.sub [0, 1] rfl) (hK.sub [] rfl) hTh 0 rfl rfl rfl hl.1 rfl (Nat.le_of_ble_eq_true rfl) ⟨Nat.le_of_ble_eq_true rfl, Nat.le_of_ble_eq_true rfl⟩ d_FM_isKern_2 (fun q9 ce H1 h1 h2 h3 h4 h5 => fm_tout hout hlocks h1 h2 h3 h4 h5)
set_option maxHeartbeats 4000000 in
set_option maxRecDepth 100000 in
theorem x_FM_item (l : Launch) (hl0 : l.stackTraces = false) (dC : Nat → ClassId) (dI : Nat → Nat → Nat) (h : Nat) (bf : Nat) (li : Nat) (ra : Nat) (rl : Int32) (o : Nat) (sp : Nat) (ld : Int32) (pa : Nat) (va : Nat) (na : Nat) (le : Int32) (cn : Nat) (x : Int32) (hno : x < 0 ∨ nI cn ≤ x) : fm_MT l (dC, dI) y_FM_item w_FM_item ({ frames := 7, cells := 1, slots := 6, locals := 103 }) [.ref h, .int (x)] [(h, .inr (3, [.ref bf, .ref li, .ref ra, .int (rl), .ref o, .ref sp, .int (ld)])), (li, .inr (2, [.ref pa, .ref va, .ref na, .int (le), .int (nI (cn))]))] [] fm_IO := by
  refine vx_ofW (cc := b_FM_item) (maxL := 2) (ret := (some .int)) (by decide) rfl ?_
  intro pg ev s m args below meth cd s₁ BD hml hout hv
  obtain ⟨rfl, hP, hK, hTh⟩ := hv
  have hx := BD.exec
  have hb := BD.bytes
  have hts := atoms_spec (ws := w_FM_item) BD.pre
  have ht : ∀ w ∈ fm_T, w.before _ s = true := fun w h => hts w (List.mem_cons_of_mem _ h)
  have hown : s.vm.findClass R_FM = some m.cls := findClass_of_methodNamed BD.named
  have hlocks := BD.notSynchronized
  have S : CallFix pg m cd b_FM_item 2 s _ w_FM_item R_FM := ⟨hx, hb, hml, hown, hts⟩
  have hl := lv_entry ([.ref h, .int (x)]) (n := 2) (Nat.le_of_ble_eq_true rfl)
  rw [lg_entry_eq]
  generalize (lg_sl ([.ref h, .int (x)]) ++ List.replicate (2 - (lg_sl ([.ref h, .int (x)])).length) Slot.unset).toArray = ls at hl ⊢
  have hl : lv_has ls 2 [(0, .ref h), (1, .int (x))] := hl
  refine lv_aload_n hx hb d_FM_item_0 rfl (lv_at hl 0 rfl) ?_
  refine lv_iload_n hx hb d_FM_item_1 rfl (lv_at hl 1 rfl) ?_
  exact fm_tv S (x_FM_requireItem l hl0 dC dI h bf li ra rl o sp ld pa va na le cn x (hno)) rfl rfl k_FM_requireItem q_3_93 ⟨Nat.le_of_ble_eq_true rfl, Nat.le_of_ble_eq_true rfl⟩ (hP.sub [0, 1] rfl) (hK.sub [] rfl) hTh 0 rfl rfl rfl hl.1 rfl (Nat.le_of_ble_eq_true rfl) ⟨Nat.le_of_ble_eq_true rfl, Nat.le_of_ble_eq_true rfl⟩ d_FM_item_2 (fun q9 ce H1 h1 h2 h3 h4 h5 => fm_tout hout hlocks h1 h2 h3 h4 h5)
set_option maxHeartbeats 4000000 in
set_option maxRecDepth 100000 in
theorem x_FM_aboutN (l : Launch) (hl0 : l.stackTraces = false) (dC : Nat → ClassId) (dI : Nat → Nat → Nat) (h : Nat) (bf : Nat) (li : Nat) (ra : Nat) (rl : Int32) (o : Nat) (sp : Nat) (wa : Nat) (sa : Nat) (la : Nat) (s0 : Nat) (cI : ClassId) (B : Nat → Nat) (w : Nat → Int32) (st : Nat → Int32) (ln : Nat → Int32) (x : Int32) (hF : fm_FO B w st ln) (hno : x < 0 ∨ nI 6 < x) : fm_MT l (dC, dI) y_FM_about w_FM_about ({ frames := 6, cells := 1, slots := 6, locals := 82 }) [.ref h, .int (x)] [(h, .inr (3, [.ref bf, .ref li, .ref ra, .int (rl), .ref o, .ref sp, .int (nI (1))])), (o, .inr (1, [.ref wa, .ref sa, .ref la, .int (nI (fm_HF B 2)), .int (nI (fm_HF B 3)), .int (nI (s0)), .int (nI (fm_z s0)), .int (nI (fm_h s0))])), (wa, .inl (cI, 2048, .inl (w))), (sa, .inl (cI, 10, .inl (st))), (la, .inl (cI, 10, .inl (ln)))] [(cI, .int)] fm_IO := by
  refine vx_ofW (cc := b_FM_about) (maxL := 2) (ret := (some .int)) (by decide) rfl ?_
  intro pg ev s m args below meth cd s₁ BD hml hout hv
  obtain ⟨rfl, hP, hK, hTh⟩ := hv
  have hx := BD.exec
  have hb := BD.bytes
  have hts := atoms_spec (ws := w_FM_about) BD.pre
  have ht : ∀ w ∈ fm_T, w.before _ s = true := fun w h => hts w (List.mem_cons_of_mem _ h)
  have hown : s.vm.findClass R_FM = some m.cls := findClass_of_methodNamed BD.named
  have hlocks := BD.notSynchronized
  have S : CallFix pg m cd b_FM_about 2 s _ w_FM_about R_FM := ⟨hx, hb, hml, hown, hts⟩
  have hl := lv_entry ([.ref h, .int (x)]) (n := 2) (Nat.le_of_ble_eq_true rfl)
  rw [lg_entry_eq]
  generalize (lg_sl ([.ref h, .int (x)]) ++ List.replicate (2 - (lg_sl ([.ref h, .int (x)])).length) Slot.unset).toArray = ls at hl ⊢
  have hl : lv_has ls 2 [(0, .ref h), (1, .int (x))] := hl
  refine lv_aload_n hx hb d_FM_about_0 rfl (lv_at hl 0 rfl) ?_
  refine fm_cnv S (c_FM_requireFont l dC dI h bf li ra rl o sp ) rfl rfl k_FM_requireFont q_2_152 ⟨Nat.le_of_ble_eq_true rfl, Nat.le_of_ble_eq_true rfl⟩ (hP.sub [0] rfl) (hK.sub [] rfl) 0 rfl rfl rfl hl.1 rfl (Nat.le_of_ble_eq_true rfl) ⟨Nat.zero_le _, Nat.zero_le _⟩ d_FM_about_1 ?_
  refine lv_iload_n hx hb d_FM_about_4 rfl (lv_at hl 1 rfl) ?_
  refine lv_tableOut (tgt := 115) hx hb d_FM_about_5 (fm_tout_of hno) (by decide) ?_
  exact fm_thr (E := fm_IO) (is := 116) (text := "nothing is known by this number") S hl0 hTh fm_EIO (by decide +kernel) hout hlocks hl.1 d_FM_about_115 d_FM_about_118 d_FM_about_119 d_FM_about_121 d_FM_about_124 ⟨⟨Nat.le_of_ble_eq_true rfl, Nat.le_of_ble_eq_true rfl⟩, Nat.le_of_ble_eq_true rfl, Nat.le_of_ble_eq_true rfl⟩
set_option maxHeartbeats 4000000 in
set_option maxRecDepth 100000 in
theorem x_FM_ofN1 (l : Launch) (hl0 : l.stackTraces = false) (dC : Nat → ClassId) (dI : Nat → Nat → Nat) (h : Nat) (bf : Nat) (li : Nat) (ra : Nat) (rl : Int32) (o : Nat) (sp : Nat) (wa : Nat) (sa : Nat) (la : Nat) (s0 : Nat) (cI : ClassId) (B : Nat → Nat) (w : Nat → Int32) (st : Nat → Int32) (ln : Nat → Int32) (x : Int32) (y : Int32) (hF : fm_FO B w st ln) (hno : fm_thI B x = false) : fm_MT l (dC, dI) y_FM_of w_FM_of ({ frames := 7, cells := 1, slots := 6, locals := 103 }) [.ref h, .int (x), .int (y)] [(h, .inr (3, [.ref bf, .ref li, .ref ra, .int (rl), .ref o, .ref sp, .int (nI (1))])), (o, .inr (1, [.ref wa, .ref sa, .ref la, .int (nI (fm_HF B 2)), .int (nI (fm_HF B 3)), .int (nI (s0)), .int (nI (fm_z s0)), .int (nI (fm_h s0))])), (wa, .inl (cI, 2048, .inl (w))), (sa, .inl (cI, 10, .inl (st))), (la, .inl (cI, 10, .inl (ln)))] [(cI, .int)] fm_IO := by
  refine vx_ofW (cc := b_FM_of) (maxL := 3) (ret := (some .int)) (by decide) rfl ?_
  intro pg ev s m args below meth cd s₁ BD hml hout hv
  obtain ⟨rfl, hP, hK, hTh⟩ := hv
  have hx := BD.exec
  have hb := BD.bytes
  have hts := atoms_spec (ws := w_FM_of) BD.pre
  have ht : ∀ w ∈ fm_T, w.before _ s = true := fun w h => hts w (List.mem_cons_of_mem _ h)
  have hown : s.vm.findClass R_FM = some m.cls := findClass_of_methodNamed BD.named
  have hlocks := BD.notSynchronized
  have S : CallFix pg m cd b_FM_of 3 s _ w_FM_of R_FM := ⟨hx, hb, hml, hown, hts⟩
  have hl := lv_entry ([.ref h, .int (x), .int (y)]) (n := 3) (Nat.le_of_ble_eq_true rfl)
  rw [lg_entry_eq]
  generalize (lg_sl ([.ref h, .int (x), .int (y)]) ++ List.replicate (3 - (lg_sl ([.ref h, .int (x), .int (y)])).length) Slot.unset).toArray = ls at hl ⊢
  have hl : lv_has ls 3 [(0, .ref h), (1, .int (x)), (2, .int (y))] := hl
  refine lv_aload_n hx hb d_FM_of_0 rfl (lv_at hl 0 rfl) ?_
  refine fm_cnv S (c_FM_requireFont l dC dI h bf li ra rl o sp ) rfl rfl k_FM_requireFont q_2_152 ⟨Nat.le_of_ble_eq_true rfl, Nat.le_of_ble_eq_true rfl⟩ (hP.sub [0] rfl) (hK.sub [] rfl) 0 rfl rfl rfl hl.1 rfl (Nat.le_of_ble_eq_true rfl) ⟨Nat.zero_le _, Nat.zero_le _⟩ d_FM_of_1 ?_
  refine lv_aload_n hx hb d_FM_of_4 rfl (lv_at hl 0 rfl) ?_
  refine lv_iload_n hx hb d_FM_of_5 rfl (lv_at hl 1 rfl) ?_
  exact fm_tv S (x_FM_requireThere l hl0 dC dI h bf li ra rl o sp wa sa la s0 cI B w st ln x (hF) (hno)) rfl rfl k_FM_requireThere q_2_203 ⟨Nat.le_of_ble_eq_true rfl, Nat.le_of_ble_eq_true rfl⟩ (hP.sub [0, 1, 2, 3, 4] rfl) (hK.sub [0] rfl) hTh 0 rfl rfl rfl hl.1 rfl (Nat.le_of_ble_eq_true rfl) ⟨Nat.le_of_ble_eq_true rfl, Nat.le_of_ble_eq_true rfl⟩ d_FM_of_6 (fun q9 ce H1 h1 h2 h3 h4 h5 => fm_tout hout hlocks h1 h2 h3 h4 h5)
set_option maxHeartbeats 4000000 in
set_option maxRecDepth 100000 in
theorem x_FM_partN1 (l : Launch) (hl0 : l.stackTraces = false) (dC : Nat → ClassId) (dI : Nat → Nat → Nat) (h : Nat) (bf : Nat) (li : Nat) (ra : Nat) (rl : Int32) (o : Nat) (sp : Nat) (wa : Nat) (sa : Nat) (la : Nat) (s0 : Nat) (cI : ClassId) (B : Nat → Nat) (w : Nat → Int32) (st : Nat → Int32) (ln : Nat → Int32) (x : Int32) (y : Int32) (hF : fm_FO B w st ln) (hno : fm_thI B x = false) : fm_MT l (dC, dI) y_FM_part w_FM_part ({ frames := 7, cells := 1, slots := 6, locals := 103 }) [.ref h, .int (x), .int (y)] [(h, .inr (3, [.ref bf, .ref li, .ref ra, .int (rl), .ref o, .ref sp, .int (nI (1))])), (o, .inr (1, [.ref wa, .ref sa, .ref la, .int (nI (fm_HF B 2)), .int (nI (fm_HF B 3)), .int (nI (s0)), .int (nI (fm_z s0)), .int (nI (fm_h s0))])), (wa, .inl (cI, 2048, .inl (w))), (sa, .inl (cI, 10, .inl (st))), (la, .inl (cI, 10, .inl (ln)))] [(cI, .int)] fm_IO := by
  refine vx_ofW (cc := b_FM_part) (maxL := 4) (ret := (some .int)) (by decide) rfl ?_
  intro pg ev s m args below meth cd s₁ BD hml hout hv
  obtain ⟨rfl, hP, hK, hTh⟩ := hv
  have hx := BD.exec
  have hb := BD.bytes
  have hts := atoms_spec (ws := w_FM_part) BD.pre
  have ht : ∀ w ∈ fm_T, w.before _ s = true := fun w h => hts w (List.mem_cons_of_mem _ h)
  have hown : s.vm.findClass R_FM = some m.cls := findClass_of_methodNamed BD.named
  have hlocks := BD.notSynchronized
  have S : CallFix pg m cd b_FM_part 4 s _ w_FM_part R_FM := ⟨hx, hb, hml, hown, hts⟩
  have hl := lv_entry ([.ref h, .int (x), .int (y)]) (n := 4) (Nat.le_of_ble_eq_true rfl)
  rw [lg_entry_eq]
  generalize (lg_sl ([.ref h, .int (x), .int (y)]) ++ List.replicate (4 - (lg_sl ([.ref h, .int (x), .int (y)])).length) Slot.unset).toArray = ls at hl ⊢
  have hl : lv_has ls 4 [(0, .ref h), (1, .int (x)), (2, .int (y))] := hl
  refine lv_aload_n hx hb d_FM_part_0 rfl (lv_at hl 0 rfl) ?_
  refine fm_cnv S (c_FM_requireFont l dC dI h bf li ra rl o sp ) rfl rfl k_FM_requireFont q_2_152 ⟨Nat.le_of_ble_eq_true rfl, Nat.le_of_ble_eq_true rfl⟩ (hP.sub [0] rfl) (hK.sub [] rfl) 0 rfl rfl rfl hl.1 rfl (Nat.le_of_ble_eq_true rfl) ⟨Nat.zero_le _, Nat.zero_le _⟩ d_FM_part_1 ?_
  refine lv_aload_n hx hb d_FM_part_4 rfl (lv_at hl 0 rfl) ?_
  refine lv_iload_n hx hb d_FM_part_5 rfl (lv_at hl 1 rfl) ?_
  exact fm_tv S (x_FM_requireThere l hl0 dC dI h bf li ra rl o sp wa sa la s0 cI B w st ln x (hF) (hno)) rfl rfl k_FM_requireThere q_2_203 ⟨Nat.le_of_ble_eq_true rfl, Nat.le_of_ble_eq_true rfl⟩ (hP.sub [0, 1, 2, 3, 4] rfl) (hK.sub [0] rfl) hTh 0 rfl rfl rfl hl.1 rfl (Nat.le_of_ble_eq_true rfl) ⟨Nat.le_of_ble_eq_true rfl, Nat.le_of_ble_eq_true rfl⟩ d_FM_part_6 (fun q9 ce H1 h1 h2 h3 h4 h5 => fm_tout hout hlocks h1 h2 h3 h4 h5)
set_option maxHeartbeats 4000000 in
set_option maxRecDepth 100000 in
theorem x_FM_ofN2 (l : Launch) (hl0 : l.stackTraces = false) (dC : Nat → ClassId) (dI : Nat → Nat → Nat) (h : Nat) (bf : Nat) (li : Nat) (ra : Nat) (rl : Int32) (o : Nat) (sp : Nat) (wa : Nat) (sa : Nat) (la : Nat) (s0 : Nat) (cI : ClassId) (B : Nat → Nat) (w : Nat → Int32) (st : Nat → Int32) (ln : Nat → Int32) (c : Nat) (y : Int32) (hF : fm_FO B w st ln) (hth : fm_th B c = true) (hc31 : c < 2 ^ 31) (hno : y < 0 ∨ nI 5 < y) : fm_MT l (dC, dI) y_FM_of w_FM_of ({ frames := 6, cells := 1, slots := 6, locals := 86 }) [.ref h, .int (nI (c)), .int (y)] [(h, .inr (3, [.ref bf, .ref li, .ref ra, .int (rl), .ref o, .ref sp, .int (nI (1))])), (o, .inr (1, [.ref wa, .ref sa, .ref la, .int (nI (fm_HF B 2)), .int (nI (fm_HF B 3)), .int (nI (s0)), .int (nI (fm_z s0)), .int (nI (fm_h s0))])), (wa, .inl (cI, 2048, .inl (w))), (sa, .inl (cI, 10, .inl (st))), (la, .inl (cI, 10, .inl (ln)))] [(cI, .int)] fm_IO := by
  refine vx_ofW (cc := b_FM_of) (maxL := 3) (ret := (some .int)) (by decide) rfl ?_
  intro pg ev s m args below meth cd s₁ BD hml hout hv
  obtain ⟨rfl, hP, hK, hTh⟩ := hv
  have hx := BD.exec
  have hb := BD.bytes
  have hts := atoms_spec (ws := w_FM_of) BD.pre
  have ht : ∀ w ∈ fm_T, w.before _ s = true := fun w h => hts w (List.mem_cons_of_mem _ h)
  have hown : s.vm.findClass R_FM = some m.cls := findClass_of_methodNamed BD.named
  have hlocks := BD.notSynchronized
  have S : CallFix pg m cd b_FM_of 3 s _ w_FM_of R_FM := ⟨hx, hb, hml, hown, hts⟩
  have hl := lv_entry ([.ref h, .int (nI (c)), .int (y)]) (n := 3) (Nat.le_of_ble_eq_true rfl)
  rw [lg_entry_eq]
  generalize (lg_sl ([.ref h, .int (nI (c)), .int (y)]) ++ List.replicate (3 - (lg_sl ([.ref h, .int (nI (c)), .int (y)])).length) Slot.unset).toArray = ls at hl ⊢
  have hl : lv_has ls 3 [(0, .ref h), (1, .int (nI (c))), (2, .int (y))] := hl
  refine lv_aload_n hx hb d_FM_of_0 rfl (lv_at hl 0 rfl) ?_
  refine fm_cnv S (c_FM_requireFont l dC dI h bf li ra rl o sp ) rfl rfl k_FM_requireFont q_2_152 ⟨Nat.le_of_ble_eq_true rfl, Nat.le_of_ble_eq_true rfl⟩ (hP.sub [0] rfl) (hK.sub [] rfl) 0 rfl rfl rfl hl.1 rfl (Nat.le_of_ble_eq_true rfl) ⟨Nat.zero_le _, Nat.zero_le _⟩ d_FM_of_1 ?_
  refine lv_aload_n hx hb d_FM_of_4 rfl (lv_at hl 0 rfl) ?_
  refine lv_iload_n hx hb d_FM_of_5 rfl (lv_at hl 1 rfl) ?_
  refine fm_cnv S (c_FM_requireThere l dC dI h bf li ra rl o sp wa sa la s0 cI B w st ln c (hF) (hth) (by omega)) rfl rfl k_FM_requireThere q_2_203 ⟨Nat.le_of_ble_eq_true rfl, Nat.le_of_ble_eq_true rfl⟩ (hP.sub [0, 1, 2, 3, 4] rfl) (hK.sub [0] rfl) 0 rfl rfl rfl hl.1 rfl (Nat.le_of_ble_eq_true rfl) ⟨Nat.zero_le _, Nat.zero_le _⟩ d_FM_of_6 ?_
  refine lv_iload_n hx hb d_FM_of_9 rfl (lv_at hl 2 rfl) ?_
  refine lv_tableOut (tgt := 108) hx hb d_FM_of_10 (fm_tout_of hno) (by decide) ?_
  exact fm_thr (E := fm_IO) (is := 116) (text := "nothing is known by this number") S hl0 hTh fm_EIO (by decide +kernel) hout hlocks hl.1 d_FM_of_108 d_FM_of_111 d_FM_of_112 d_FM_of_114 d_FM_of_117 ⟨⟨Nat.le_of_ble_eq_true rfl, Nat.le_of_ble_eq_true rfl⟩, Nat.le_of_ble_eq_true rfl, Nat.le_of_ble_eq_true rfl⟩
set_option maxHeartbeats 4000000 in
set_option maxRecDepth 100000 in
theorem x_FM_partN2 (l : Launch) (hl0 : l.stackTraces = false) (dC : Nat → ClassId) (dI : Nat → Nat → Nat) (h : Nat) (bf : Nat) (li : Nat) (ra : Nat) (rl : Int32) (o : Nat) (sp : Nat) (wa : Nat) (sa : Nat) (la : Nat) (s0 : Nat) (cI : ClassId) (B : Nat → Nat) (w : Nat → Int32) (st : Nat → Int32) (ln : Nat → Int32) (c : Nat) (y : Int32) (hF : fm_FO B w st ln) (hth : fm_th B c = true) (hc31 : c < 2 ^ 31) (hno : fm_tag B c ≠ 3 ∨ y < 0 ∨ nI 3 < y) : fm_MT l (dC, dI) y_FM_part w_FM_part ({ frames := 6, cells := 1, slots := 6, locals := 86 }) [.ref h, .int (nI (c)), .int (y)] [(h, .inr (3, [.ref bf, .ref li, .ref ra, .int (rl), .ref o, .ref sp, .int (nI (1))])), (o, .inr (1, [.ref wa, .ref sa, .ref la, .int (nI (fm_HF B 2)), .int (nI (fm_HF B 3)), .int (nI (s0)), .int (nI (fm_z s0)), .int (nI (fm_h s0))])), (wa, .inl (cI, 2048, .inl (w))), (sa, .inl (cI, 10, .inl (st))), (la, .inl (cI, 10, .inl (ln)))] [(cI, .int)] fm_IO := by
  refine vx_ofW (cc := b_FM_part) (maxL := 4) (ret := (some .int)) (by decide) rfl ?_
  intro pg ev s m args below meth cd s₁ BD hml hout hv
  obtain ⟨rfl, hP, hK, hTh⟩ := hv
  have hx := BD.exec
  have hb := BD.bytes
  have hts := atoms_spec (ws := w_FM_part) BD.pre
  have ht : ∀ w ∈ fm_T, w.before _ s = true := fun w h => hts w (List.mem_cons_of_mem _ h)
  have hown : s.vm.findClass R_FM = some m.cls := findClass_of_methodNamed BD.named
  have hlocks := BD.notSynchronized
  have S : CallFix pg m cd b_FM_part 4 s _ w_FM_part R_FM := ⟨hx, hb, hml, hown, hts⟩
  have hl := lv_entry ([.ref h, .int (nI (c)), .int (y)]) (n := 4) (Nat.le_of_ble_eq_true rfl)
  rw [lg_entry_eq]
  generalize (lg_sl ([.ref h, .int (nI (c)), .int (y)]) ++ List.replicate (4 - (lg_sl ([.ref h, .int (nI (c)), .int (y)])).length) Slot.unset).toArray = ls at hl ⊢
  have hl : lv_has ls 4 [(0, .ref h), (1, .int (nI (c))), (2, .int (y))] := hl
  have hB : ∀ i, B i < 256 := hF.1.1
  obtain ⟨hL, hFw, hFs, hFl⟩ := id hF
  obtain ⟨-, hq, h3, h10⟩ := id hL
  obtain ⟨h1, h2, -⟩ := fm_th_in hth
  refine lv_aload_n hx hb d_FM_part_0 rfl (lv_at hl 0 rfl) ?_
  refine fm_cnv S (c_FM_requireFont l dC dI h bf li ra rl o sp ) rfl rfl k_FM_requireFont q_2_152 ⟨Nat.le_of_ble_eq_true rfl, Nat.le_of_ble_eq_true rfl⟩ (hP.sub [0] rfl) (hK.sub [] rfl) 0 rfl rfl rfl hl.1 rfl (Nat.le_of_ble_eq_true rfl) ⟨Nat.zero_le _, Nat.zero_le _⟩ d_FM_part_1 ?_
  refine lv_aload_n hx hb d_FM_part_4 rfl (lv_at hl 0 rfl) ?_
  refine lv_iload_n hx hb d_FM_part_5 rfl (lv_at hl 1 rfl) ?_
  refine fm_cnv S (c_FM_requireThere l dC dI h bf li ra rl o sp wa sa la s0 cI B w st ln c (hF) (hth) (by omega)) rfl rfl k_FM_requireThere q_2_203 ⟨Nat.le_of_ble_eq_true rfl, Nat.le_of_ble_eq_true rfl⟩ (hP.sub [0, 1, 2, 3, 4] rfl) (hK.sub [0] rfl) 0 rfl rfl rfl hl.1 rfl (Nat.le_of_ble_eq_true rfl) ⟨Nat.zero_le _, Nat.zero_le _⟩ d_FM_part_6 ?_
  refine lv_aload_n hx hb d_FM_part_9 rfl (lv_at hl 0 rfl) ?_
  refine va_get (D := (dC, dI)) (ci := 3) (v := .ref o) (C := R_FM) (T := F_FM) (N := 7) hx hb ht i_FM hown hK hP 0 rfl rfl 4 (by decide) (ht _ q_1_103) (fun _ h9 => h9) rfl d_FM_part_10 ?_
  refine lv_iload_n hx hb d_FM_part_13 rfl (lv_at hl 1 rfl) ?_
  refine fm_cv S (c_FO_characterN l dC dI o wa sa la (nI (s0)) (nI (fm_z s0)) (nI (fm_h s0)) cI B w st ln c (hF) (h1) (h2)) rfl rfl k_FO_character q_2_224 ⟨Nat.le_of_ble_eq_true rfl, Nat.le_of_ble_eq_true rfl⟩ (hP.sub [1, 2, 3, 4] rfl) (hK.sub [0] rfl) 0 rfl rfl rfl hl.1 rfl (Nat.le_of_ble_eq_true rfl) ⟨Nat.zero_le _, Nat.zero_le _⟩ d_FM_part_14 ?_
  refine lv_istore_n (lv' := [(3, .int (fm_W B 1 (c - fm_HF B 2))), (0, .ref h), (1, .int (nI (c))), (2, .int (y))]) hx hb d_FM_part_17 rfl hl (by decide) rfl (fun ls hl => ?_)
  refine lv_iload_n hx hb d_FM_part_18 rfl (lv_at hl 0 rfl) ?_
  refine fm_cs S (c_FO_tag l dC dI (fm_W B 1 (c - fm_HF B 2)) ) rfl rfl k_FO_tag q_2_225 ⟨Nat.le_of_ble_eq_true rfl, Nat.le_of_ble_eq_true rfl⟩ (hP.sub [] rfl) (hK.sub [] rfl) rfl hl.1 rfl (Nat.le_of_ble_eq_true rfl) ⟨Nat.zero_le _, Nat.zero_le _⟩ d_FM_part_19 ?_
  refine fm_tw (z := nI (fm_AT B 1 (c - fm_HF B 2) 2 % 4)) (by simp only [fm_by_W hB _ _ (show 0 < 4 by decide), fm_by_W hB _ _ (show 1 < 4 by decide), fm_by_W hB _ _ (show 2 < 4 by decide), fm_by_W hB _ _ (show 3 < 4 by decide)]) ?_
  have f0_19 := fm_AT_lt hB 1 (c - fm_HF B 2) 2
  refine lv_iconst (v := nI (3)) hx hb d_FM_part_22 (by decide) ?_
  refine lv_icmp_ne (tgt := 35) hx hb d_FM_part_23 (by decide) (fun c0 => ?_) (fun c0 => ?_)
  · have c_23 : ¬ (fm_AT B 1 (c - fm_HF B 2) 2 % 4 = 3) := fun z => c0 ((nI_eq (a := fm_AT B 1 (c - fm_HF B 2) 2 % 4) (b := 3) (by omega) (by omega)).mpr z)
    exact fm_thr (E := fm_IO) (is := 146) (text := "no such byte of a recipe") S hl0 hTh fm_EIO (by decide +kernel) hout hlocks hl.1 d_FM_part_35 d_FM_part_38 d_FM_part_39 d_FM_part_41 d_FM_part_44 ⟨⟨Nat.le_of_ble_eq_true rfl, Nat.le_of_ble_eq_true rfl⟩, Nat.le_of_ble_eq_true rfl, Nat.le_of_ble_eq_true rfl⟩
  · have c_23 : fm_AT B 1 (c - fm_HF B 2) 2 % 4 = 3 := (nI_eq (a := fm_AT B 1 (c - fm_HF B 2) 2 % 4) (b := 3) (by omega) (by omega)).mp c0
    refine lv_iload_n hx hb d_FM_part_26 rfl (lv_at hl 3 rfl) ?_
    refine lv_if_lt (tgt := 35) hx hb d_FM_part_27 (by decide) (fun c0 => ?_) (fun c0 => ?_)
    · have c_27 := c0
      exact fm_thr (E := fm_IO) (is := 146) (text := "no such byte of a recipe") S hl0 hTh fm_EIO (by decide +kernel) hout hlocks hl.1 d_FM_part_35 d_FM_part_38 d_FM_part_39 d_FM_part_41 d_FM_part_44 ⟨⟨Nat.le_of_ble_eq_true rfl, Nat.le_of_ble_eq_true rfl⟩, Nat.le_of_ble_eq_true rfl, Nat.le_of_ble_eq_true rfl⟩
    · have c_27 := c0
      refine lv_iload_n hx hb d_FM_part_30 rfl (lv_at hl 3 rfl) ?_
      refine lv_iconst (v := nI (3)) hx hb d_FM_part_31 (by decide) ?_
      refine lv_icmp_le (tgt := 45) hx hb d_FM_part_32 (by decide) (fun c0 => ?_) (fun c0 => ?_)
      · have c_32 := c0
        exact absurd ((hno.resolve_left (fun z => z c_23)).resolve_left c_27) (Int32.not_lt.mpr c_32)
      · have c_32 := c0
        exact fm_thr (E := fm_IO) (is := 146) (text := "no such byte of a recipe") S hl0 hTh fm_EIO (by decide +kernel) hout hlocks hl.1 d_FM_part_35 d_FM_part_38 d_FM_part_39 d_FM_part_41 d_FM_part_44 ⟨⟨Nat.le_of_ble_eq_true rfl, Nat.le_of_ble_eq_true rfl⟩, Nat.le_of_ble_eq_true rfl, Nat.le_of_ble_eq_true rfl⟩
set_option maxHeartbeats 4000000 in
set_option maxRecDepth 100000 in
theorem x_FM_parameterN (l : Launch) (hl0 : l.stackTraces = false) (dC : Nat → ClassId) (dI : Nat → Nat → Nat) (h : Nat) (bf : Nat) (li : Nat) (ra : Nat) (rl : Int32) (o : Nat) (sp : Nat) (wa : Nat) (sa : Nat) (la : Nat) (s0 : Nat) (cI : ClassId) (B : Nat → Nat) (w : Nat → Int32) (st : Nat → Int32) (ln : Nat → Int32) (x : Int32) (hF : fm_FO B w st ln) (hno : x < nI 1 ∨ nI (fm_WD B 9) < x) : fm_MT l (dC, dI) y_FM_parameter w_FM_parameter ({ frames := 6, cells := 1, slots := 6, locals := 82 }) [.ref h, .int (x)] [(h, .inr (3, [.ref bf, .ref li, .ref ra, .int (rl), .ref o, .ref sp, .int (nI (1))])), (o, .inr (1, [.ref wa, .ref sa, .ref la, .int (nI (fm_HF B 2)), .int (nI (fm_HF B 3)), .int (nI (s0)), .int (nI (fm_z s0)), .int (nI (fm_h s0))])), (wa, .inl (cI, 2048, .inl (w))), (sa, .inl (cI, 10, .inl (st))), (la, .inl (cI, 10, .inl (ln)))] [(cI, .int)] fm_IO := by
  refine vx_ofW (cc := b_FM_parameter) (maxL := 3) (ret := (some .int)) (by decide) rfl ?_
  intro pg ev s m args below meth cd s₁ BD hml hout hv
  obtain ⟨rfl, hP, hK, hTh⟩ := hv
  have hx := BD.exec
  have hb := BD.bytes
  have hts := atoms_spec (ws := w_FM_parameter) BD.pre
  have ht : ∀ w ∈ fm_T, w.before _ s = true := fun w h => hts w (List.mem_cons_of_mem _ h)
  have hown : s.vm.findClass R_FM = some m.cls := findClass_of_methodNamed BD.named
  have hlocks := BD.notSynchronized
  have S : CallFix pg m cd b_FM_parameter 3 s _ w_FM_parameter R_FM := ⟨hx, hb, hml, hown, hts⟩
  have hl := lv_entry ([.ref h, .int (x)]) (n := 3) (Nat.le_of_ble_eq_true rfl)
  rw [lg_entry_eq]
  generalize (lg_sl ([.ref h, .int (x)]) ++ List.replicate (3 - (lg_sl ([.ref h, .int (x)])).length) Slot.unset).toArray = ls at hl ⊢
  have hl : lv_has ls 3 [(0, .ref h), (1, .int (x))] := hl
  have hB : ∀ i, B i < 256 := hF.1.1
  obtain ⟨hL, hFw, hFs, hFl⟩ := id hF
  obtain ⟨-, hq, h3, h10⟩ := id hL
  refine lv_aload_n hx hb d_FM_parameter_0 rfl (lv_at hl 0 rfl) ?_
  refine fm_cnv S (c_FM_requireFont l dC dI h bf li ra rl o sp ) rfl rfl k_FM_requireFont q_2_152 ⟨Nat.le_of_ble_eq_true rfl, Nat.le_of_ble_eq_true rfl⟩ (hP.sub [0] rfl) (hK.sub [] rfl) 0 rfl rfl rfl hl.1 rfl (Nat.le_of_ble_eq_true rfl) ⟨Nat.zero_le _, Nat.zero_le _⟩ d_FM_parameter_1 ?_
  refine lv_iload_n hx hb d_FM_parameter_4 rfl (lv_at hl 1 rfl) ?_
  refine lv_iconst (v := nI (1)) hx hb d_FM_parameter_5 (by decide) ?_
  refine lv_icmp_lt (tgt := 22) hx hb d_FM_parameter_6 (by decide) (fun c0 => ?_) (fun c0 => ?_)
  · have c_6 := c0
    exact fm_thr (E := fm_IO) (is := 155) (text := "no such parameter") S hl0 hTh fm_EIO (by decide +kernel) hout hlocks hl.1 d_FM_parameter_22 d_FM_parameter_25 d_FM_parameter_26 d_FM_parameter_28 d_FM_parameter_31 ⟨⟨Nat.le_of_ble_eq_true rfl, Nat.le_of_ble_eq_true rfl⟩, Nat.le_of_ble_eq_true rfl, Nat.le_of_ble_eq_true rfl⟩
  · have c_6 := c0
    refine lv_iload_n hx hb d_FM_parameter_9 rfl (lv_at hl 1 rfl) ?_
    refine lv_aload_n hx hb d_FM_parameter_10 rfl (lv_at hl 0 rfl) ?_
    refine va_get (D := (dC, dI)) (ci := 3) (v := .ref o) (C := R_FM) (T := F_FM) (N := 7) hx hb ht i_FM hown hK hP 0 rfl rfl 4 (by decide) (ht _ q_1_103) (fun _ h9 => h9) rfl d_FM_parameter_11 ?_
    refine lv_bipush (v := nI (9)) hx hb d_FM_parameter_14 (by decide) ?_
    refine fm_cv S (c_FO_lengthOfN l dC dI o wa sa la (nI (s0)) (nI (fm_z s0)) (nI (fm_h s0)) cI B w st ln 9 (hF) (by omega)) rfl rfl k_FO_lengthOf q_2_172 ⟨Nat.le_of_ble_eq_true rfl, Nat.le_of_ble_eq_true rfl⟩ (hP.sub [1, 2, 3, 4] rfl) (hK.sub [0] rfl) 0 rfl rfl rfl hl.1 rfl (Nat.le_of_ble_eq_true rfl) ⟨Nat.zero_le _, Nat.zero_le _⟩ d_FM_parameter_16 ?_
    have f0_16 := fm_WD_le hB 9
    refine lv_icmp_le (tgt := 32) hx hb d_FM_parameter_19 (by decide) (fun c0 => ?_) (fun c0 => ?_)
    · have c_19 := c0
      exact absurd (hno.resolve_left c_6) (Int32.not_lt.mpr c_19)
    · have c_19 := c0
      exact fm_thr (E := fm_IO) (is := 155) (text := "no such parameter") S hl0 hTh fm_EIO (by decide +kernel) hout hlocks hl.1 d_FM_parameter_22 d_FM_parameter_25 d_FM_parameter_26 d_FM_parameter_28 d_FM_parameter_31 ⟨⟨Nat.le_of_ble_eq_true rfl, Nat.le_of_ble_eq_true rfl⟩, Nat.le_of_ble_eq_true rfl, Nat.le_of_ble_eq_true rfl⟩
set_option maxHeartbeats 4000000 in
set_option maxRecDepth 100000 in
theorem x_FM_askN1 (l : Launch) (hl0 : l.stackTraces = false) (dC : Nat → ClassId) (dI : Nat → Nat → Nat) (h : Nat) (bf : Nat) (li : Nat) (ra : Nat) (rl : Int32) (o : Nat) (sp : Nat) (wa : Nat) (sa : Nat) (la : Nat) (s0 : Nat) (cI : ClassId) (B : Nat → Nat) (w : Nat → Int32) (st : Nat → Int32) (ln : Nat → Int32) (x : Int32) (y : Int32) (hF : fm_FO B w st ln) (hne : x ≠ nI 256) (hno : fm_thI B x = false) : fm_MT l (dC, dI) y_FM_ask w_FM_ask ({ frames := 8, cells := 1, slots := 6, locals := 124 }) [.ref h, .int (x), .int (y)] [(h, .inr (3, [.ref bf, .ref li, .ref ra, .int (rl), .ref o, .ref sp, .int (nI (1))])), (o, .inr (1, [.ref wa, .ref sa, .ref la, .int (nI (fm_HF B 2)), .int (nI (fm_HF B 3)), .int (nI (s0)), .int (nI (fm_z s0)), .int (nI (fm_h s0))])), (wa, .inl (cI, 2048, .inl (w))), (sa, .inl (cI, 10, .inl (st))), (la, .inl (cI, 10, .inl (ln)))] [(cI, .int)] fm_IO := by
  refine vx_ofW (cc := b_FM_ask) (maxL := 3) (ret := (some .int)) (by decide) rfl ?_
  intro pg ev s m args below meth cd s₁ BD hml hout hv
  obtain ⟨rfl, hP, hK, hTh⟩ := hv
  have hx := BD.exec
  have hb := BD.bytes
  have hts := atoms_spec (ws := w_FM_ask) BD.pre
  have ht : ∀ w ∈ fm_T, w.before _ s = true := fun w h => hts w (List.mem_cons_of_mem _ h)
  have hown : s.vm.findClass R_FM = some m.cls := findClass_of_methodNamed BD.named
  have hlocks := BD.notSynchronized
  have S : CallFix pg m cd b_FM_ask 3 s _ w_FM_ask R_FM := ⟨hx, hb, hml, hown, hts⟩
  have hl := lv_entry ([.ref h, .int (x), .int (y)]) (n := 3) (Nat.le_of_ble_eq_true rfl)
  rw [lg_entry_eq]
  generalize (lg_sl ([.ref h, .int (x), .int (y)]) ++ List.replicate (3 - (lg_sl ([.ref h, .int (x), .int (y)])).length) Slot.unset).toArray = ls at hl ⊢
  have hl : lv_has ls 3 [(0, .ref h), (1, .int (x)), (2, .int (y))] := hl
  refine lv_aload_n hx hb d_FM_ask_0 rfl (lv_at hl 0 rfl) ?_
  refine fm_cnv S (c_FM_requireFont l dC dI h bf li ra rl o sp ) rfl rfl k_FM_requireFont q_2_152 ⟨Nat.le_of_ble_eq_true rfl, Nat.le_of_ble_eq_true rfl⟩ (hP.sub [0] rfl) (hK.sub [] rfl) 0 rfl rfl rfl hl.1 rfl (Nat.le_of_ble_eq_true rfl) ⟨Nat.zero_le _, Nat.zero_le _⟩ d_FM_ask_1 ?_
  refine lv_aload_n hx hb d_FM_ask_4 rfl (lv_at hl 0 rfl) ?_
  refine lv_iload_n hx hb d_FM_ask_5 rfl (lv_at hl 1 rfl) ?_
  exact fm_tv S (x_FM_requireThereOrEdge l hl0 dC dI h bf li ra rl o sp wa sa la s0 cI B w st ln x (hF) (hne) (hno)) rfl rfl k_FM_requireThereOrEdge q_3_13 ⟨Nat.le_of_ble_eq_true rfl, Nat.le_of_ble_eq_true rfl⟩ (hP.sub [0, 1, 2, 3, 4] rfl) (hK.sub [0] rfl) hTh 0 rfl rfl rfl hl.1 rfl (Nat.le_of_ble_eq_true rfl) ⟨Nat.le_of_ble_eq_true rfl, Nat.le_of_ble_eq_true rfl⟩ d_FM_ask_6 (fun q9 ce H1 h1 h2 h3 h4 h5 => fm_tout hout hlocks h1 h2 h3 h4 h5)
set_option maxHeartbeats 4000000 in
set_option maxRecDepth 100000 in
theorem x_FM_askN2 (l : Launch) (hl0 : l.stackTraces = false) (dC : Nat → ClassId) (dI : Nat → Nat → Nat) (h : Nat) (bf : Nat) (li : Nat) (ra : Nat) (rl : Int32) (o : Nat) (sp : Nat) (wa : Nat) (sa : Nat) (la : Nat) (s0 : Nat) (cI : ClassId) (B : Nat → Nat) (w : Nat → Int32) (st : Nat → Int32) (ln : Nat → Int32) (c : Nat) (y : Int32) (hF : fm_FO B w st ln) (hxx : c = 256 ∨ fm_th B c = true) (hne : y ≠ nI 256) (hno : fm_thI B y = false) : fm_MT l (dC, dI) y_FM_ask w_FM_ask ({ frames := 8, cells := 1, slots := 6, locals := 124 }) [.ref h, .int (nI (c)), .int (y)] [(h, .inr (3, [.ref bf, .ref li, .ref ra, .int (rl), .ref o, .ref sp, .int (nI (1))])), (o, .inr (1, [.ref wa, .ref sa, .ref la, .int (nI (fm_HF B 2)), .int (nI (fm_HF B 3)), .int (nI (s0)), .int (nI (fm_z s0)), .int (nI (fm_h s0))])), (wa, .inl (cI, 2048, .inl (w))), (sa, .inl (cI, 10, .inl (st))), (la, .inl (cI, 10, .inl (ln)))] [(cI, .int)] fm_IO := by
  refine vx_ofW (cc := b_FM_ask) (maxL := 3) (ret := (some .int)) (by decide) rfl ?_
  intro pg ev s m args below meth cd s₁ BD hml hout hv
  obtain ⟨rfl, hP, hK, hTh⟩ := hv
  have hx := BD.exec
  have hb := BD.bytes
  have hts := atoms_spec (ws := w_FM_ask) BD.pre
  have ht : ∀ w ∈ fm_T, w.before _ s = true := fun w h => hts w (List.mem_cons_of_mem _ h)
  have hown : s.vm.findClass R_FM = some m.cls := findClass_of_methodNamed BD.named
  have hlocks := BD.notSynchronized
  have S : CallFix pg m cd b_FM_ask 3 s _ w_FM_ask R_FM := ⟨hx, hb, hml, hown, hts⟩
  have hl := lv_entry ([.ref h, .int (nI (c)), .int (y)]) (n := 3) (Nat.le_of_ble_eq_true rfl)
  rw [lg_entry_eq]
  generalize (lg_sl ([.ref h, .int (nI (c)), .int (y)]) ++ List.replicate (3 - (lg_sl ([.ref h, .int (nI (c)), .int (y)])).length) Slot.unset).toArray = ls at hl ⊢
  have hl : lv_has ls 3 [(0, .ref h), (1, .int (nI (c))), (2, .int (y))] := hl
  have hB : ∀ i, B i < 256 := hF.1.1
  obtain ⟨hL, hFw, hFs, hFl⟩ := id hF
  obtain ⟨-, hq, h3, h10⟩ := id hL
  have hc256 := fm_le256 hL hxx
  refine lv_aload_n hx hb d_FM_ask_0 rfl (lv_at hl 0 rfl) ?_
  refine fm_cnv S (c_FM_requireFont l dC dI h bf li ra rl o sp ) rfl rfl k_FM_requireFont q_2_152 ⟨Nat.le_of_ble_eq_true rfl, Nat.le_of_ble_eq_true rfl⟩ (hP.sub [0] rfl) (hK.sub [] rfl) 0 rfl rfl rfl hl.1 rfl (Nat.le_of_ble_eq_true rfl) ⟨Nat.zero_le _, Nat.zero_le _⟩ d_FM_ask_1 ?_
  refine lv_aload_n hx hb d_FM_ask_4 rfl (lv_at hl 0 rfl) ?_
  refine lv_iload_n hx hb d_FM_ask_5 rfl (lv_at hl 1 rfl) ?_
  refine fm_cnv S (c_FM_requireThereOrEdge l dC dI h bf li ra rl o sp wa sa la s0 cI B w st ln c (hF) (hxx) (by omega)) rfl rfl k_FM_requireThereOrEdge q_3_13 ⟨Nat.le_of_ble_eq_true rfl, Nat.le_of_ble_eq_true rfl⟩ (hP.sub [0, 1, 2, 3, 4] rfl) (hK.sub [0] rfl) 0 rfl rfl rfl hl.1 rfl (Nat.le_of_ble_eq_true rfl) ⟨Nat.zero_le _, Nat.zero_le _⟩ d_FM_ask_6 ?_
  refine lv_aload_n hx hb d_FM_ask_9 rfl (lv_at hl 0 rfl) ?_
  refine lv_iload_n hx hb d_FM_ask_10 rfl (lv_at hl 2 rfl) ?_
  exact fm_tv S (x_FM_requireThereOrEdge l hl0 dC dI h bf li ra rl o sp wa sa la s0 cI B w st ln y (hF) (hne) (hno)) rfl rfl k_FM_requireThereOrEdge q_3_13 ⟨Nat.le_of_ble_eq_true rfl, Nat.le_of_ble_eq_true rfl⟩ (hP.sub [0, 1, 2, 3, 4] rfl) (hK.sub [0] rfl) hTh 0 rfl rfl rfl hl.1 rfl (Nat.le_of_ble_eq_true rfl) ⟨Nat.le_of_ble_eq_true rfl, Nat.le_of_ble_eq_true rfl⟩ d_FM_ask_11 (fun q9 ce H1 h1 h2 h3 h4 h5 => fm_tout hout hlocks h1 h2 h3 h4 h5)
