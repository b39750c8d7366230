theorem d_FO_byteOf_0 : decode b_FO_byteOf 0 = .ok (.iload_n 0, 1) := by decide +kernel
theorem d_FO_byteOf_1 : decode b_FO_byteOf 1 = .ok (.bipush 24, 2) := by decide +kernel
theorem d_FO_byteOf_3 : decode b_FO_byteOf 3 = .ok (.bipush 8, 2) := by decide +kernel
theorem d_FO_byteOf_5 : decode b_FO_byteOf 5 = .ok (.iload_n 1, 1) := by decide +kernel
theorem d_FO_byteOf_6 : decode b_FO_byteOf 6 = .ok (.imul, 1) := by decide +kernel
theorem d_FO_byteOf_7 : decode b_FO_byteOf 7 = .ok (.isub, 1) := by decide +kernel
theorem d_FO_byteOf_8 : decode b_FO_byteOf 8 = .ok (.iushr, 1) := by decide +kernel
theorem d_FO_byteOf_9 : decode b_FO_byteOf 9 = .ok (.sipush 255, 3) := by decide +kernel
theorem d_FO_byteOf_12 : decode b_FO_byteOf 12 = .ok (.iand, 1) := by decide +kernel
theorem d_FO_byteOf_13 : decode b_FO_byteOf 13 = .ok (.ireturn, 1) := by decide +kernel
set_option maxHeartbeats 4000000 in
set_option maxRecDepth 100000 in
theorem c_FO_byteOf (l : Launch) (dC : Nat → ClassId) (dI : Nat → Nat → Nat) (x : Int32) (j : Nat) (hj : j < 4) : fm_M l (dC, dI) y_FO_byteOf w_FO_byteOf ({ frames := 0, cells := 0, slots := 0, locals := 0 }) [.int (x), .int (nI (j))] [] [] (nI (fm_by x j)) := by
  refine Met.ofW (cc := b_FO_byteOf) (maxL := 2) (ret := (some .int)) (by decide) rfl ?_
  intro pg ev s m args below meth cd s₁ BD hml hv
  obtain ⟨rfl, hP, hK⟩ := hv
  have hx := BD.exec
  have hb := BD.bytes
  have hr := BD.returns
  have hts := atoms_spec (ws := w_FO_byteOf) BD.pre
  have ht : ∀ w ∈ fm_T, w.before _ s = true := fun w h => hts w (List.mem_cons_of_mem _ h)
  have hown : s.vm.findClass R_FO = some m.cls := findClass_of_methodNamed BD.named
  have hlocks := BD.notSynchronized
  have S : CallFix pg m cd b_FO_byteOf 2 s _ w_FO_byteOf R_FO := ⟨hx, hb, hml, hown, hts⟩
  have hl := lv_entry ([.int (x), .int (nI (j))]) (n := 2) (Nat.le_of_ble_eq_true rfl)
  rw [lg_entry_eq]
  generalize (lg_sl ([.int (x), .int (nI (j))]) ++ List.replicate (2 - (lg_sl ([.int (x), .int (nI (j))])).length) Slot.unset).toArray = ls at hl ⊢
  have hl : lv_has ls 2 [(0, .int (x)), (1, .int (nI (j)))] := hl
  refine lv_iload_n hx hb d_FO_byteOf_0 rfl (lv_at hl 0 rfl) ?_
  refine lv_bipush (v := nI (24)) hx hb d_FO_byteOf_1 (by decide) ?_
  refine lv_bipush (v := nI (8)) hx hb d_FO_byteOf_3 (by decide) ?_
  refine lv_iload_n hx hb d_FO_byteOf_5 rfl (lv_at hl 1 rfl) ?_
  refine lv_imul hx hb d_FO_byteOf_6 ?_
  refine fm_tw (z := nI (8 * j)) (pk_mul _ _) ?_
  refine lv_isub hx hb d_FO_byteOf_7 ?_
  refine fm_tw (z := nI (24 - (8 * j))) (pk_sub (by omega)) ?_
  refine lv_iushr (v := nI (fm_tn x / 2 ^ (24 - 8 * j))) hx hb d_FO_byteOf_8 (fm_ush x (by omega)) ?_
  refine lv_sipush (v := nI (255)) hx hb d_FO_byteOf_9 (by decide) ?_
  refine lv_iand hx hb d_FO_byteOf_12 ?_
  refine fm_tw (z := nI (fm_by x j)) (fm_mk x (k := 8) (m := 255) (by decide)) ?_
  exact W.iret hx hb hr (fun t ht hW => ⟨_, rfl, rfl, ht⟩) (fun q hq => by cases hq) d_FO_byteOf_13
theorem d_FO_target_0 : decode b_FO_target 0 = .ok (.iload_n 0, 1) := by decide +kernel
theorem d_FO_target_1 : decode b_FO_target 1 = .ok (.ldc 59, 2) := by decide +kernel
theorem d_FO_target_3 : decode b_FO_target 3 = .ok (.iand, 1) := by decide +kernel
theorem d_FO_target_4 : decode b_FO_target 4 = .ok (.ireturn, 1) := by decide +kernel
set_option maxHeartbeats 4000000 in
set_option maxRecDepth 100000 in
theorem c_FO_target (l : Launch) (dC : Nat → ClassId) (dI : Nat → Nat → Nat) (x : Int32)  : fm_M l (dC, dI) y_FO_target w_FO_target ({ frames := 0, cells := 0, slots := 0, locals := 0 }) [.int (x)] [] [] (nI (256 * fm_by x 2 + fm_by x 3)) := by
  refine Met.ofW (cc := b_FO_target) (maxL := 1) (ret := (some .int)) (by decide) rfl ?_
  intro pg ev s m args below meth cd s₁ BD hml hv
  obtain ⟨rfl, hP, hK⟩ := hv
  have hx := BD.exec
  have hb := BD.bytes
  have hr := BD.returns
  have hts := atoms_spec (ws := w_FO_target) BD.pre
  have ht : ∀ w ∈ fm_T, w.before _ s = true := fun w h => hts w (List.mem_cons_of_mem _ h)
  have hown : s.vm.findClass R_FO = some m.cls := findClass_of_methodNamed BD.named
  have hlocks := BD.notSynchronized
  have S : CallFix pg m cd b_FO_target 1 s _ w_FO_target R_FO := ⟨hx, hb, hml, hown, hts⟩
  have hl := lv_entry ([.int (x)]) (n := 1) (Nat.le_of_ble_eq_true rfl)
  rw [lg_entry_eq]
  generalize (lg_sl ([.int (x)]) ++ List.replicate (1 - (lg_sl ([.int (x)])).length) Slot.unset).toArray = ls at hl ⊢
  have hl : lv_has ls 1 [(0, .int (x))] := hl
  refine lv_iload_n hx hb d_FO_target_0 rfl (lv_at hl 0 rfl) ?_
  refine lv_ldc (own := R_FO) (v := nI (65535)) hx hb hown (ht _ q_2_43) d_FO_target_1 ?_
  refine lv_iand hx hb d_FO_target_3 ?_
  refine fm_tw (z := nI (256 * fm_by x 2 + fm_by x 3)) (fm_by23 x) ?_
  exact W.iret hx hb hr (fun t ht hW => ⟨_, rfl, rfl, ht⟩) (fun q hq => by cases hq) d_FO_target_4
theorem d_FO_saying_0 : decode b_FO_saying 0 = .ok (.iload_n 0, 1) := by decide +kernel
theorem d_FO_saying_1 : decode b_FO_saying 1 = .ok (.ldc 59, 2) := by decide +kernel
theorem d_FO_saying_3 : decode b_FO_saying 3 = .ok (.iand, 1) := by decide +kernel
theorem d_FO_saying_4 : decode b_FO_saying 4 = .ok (.ireturn, 1) := by decide +kernel
set_option maxHeartbeats 4000000 in
set_option maxRecDepth 100000 in
theorem c_FO_saying (l : Launch) (dC : Nat → ClassId) (dI : Nat → Nat → Nat) (x : Int32)  : fm_M l (dC, dI) y_FO_saying w_FO_saying ({ frames := 0, cells := 0, slots := 0, locals := 0 }) [.int (x)] [] [] (nI (256 * fm_by x 2 + fm_by x 3)) := by
  refine Met.ofW (cc := b_FO_saying) (maxL := 1) (ret := (some .int)) (by decide) rfl ?_
  intro pg ev s m args below meth cd s₁ BD hml hv
  obtain ⟨rfl, hP, hK⟩ := hv
  have hx := BD.exec
  have hb := BD.bytes
  have hr := BD.returns
  have hts := atoms_spec (ws := w_FO_saying) BD.pre
  have ht : ∀ w ∈ fm_T, w.before _ s = true := fun w h => hts w (List.mem_cons_of_mem _ h)
  have hown : s.vm.findClass R_FO = some m.cls := findClass_of_methodNamed BD.named
  have hlocks := BD.notSynchronized
  have S : CallFix pg m cd b_FO_saying 1 s _ w_FO_saying R_FO := ⟨hx, hb, hml, hown, hts⟩
  have hl := lv_entry ([.int (x)]) (n := 1) (Nat.le_of_ble_eq_true rfl)
  rw [lg_entry_eq]
  generalize (lg_sl ([.int (x)]) ++ List.replicate (1 - (lg_sl ([.int (x)])).length) Slot.unset).toArray = ls at hl ⊢
  have hl : lv_has ls 1 [(0, .int (x))] := hl
  refine lv_iload_n hx hb d_FO_saying_0 rfl (lv_at hl 0 rfl) ?_
  refine lv_ldc (own := R_FO) (v := nI (65535)) hx hb hown (ht _ q_2_43) d_FO_saying_1 ?_
  refine lv_iand hx hb d_FO_saying_3 ?_
  refine fm_tw (z := nI (256 * fm_by x 2 + fm_by x 3)) (fm_by23 x) ?_
  exact W.iret hx hb hr (fun t ht hW => ⟨_, rfl, rfl, ht⟩) (fun q hq => by cases hq) d_FO_saying_4
theorem d_FO_widthPlace_0 : decode b_FO_widthPlace 0 = .ok (.iload_n 0, 1) := by decide +kernel
theorem d_FO_widthPlace_1 : decode b_FO_widthPlace 1 = .ok (.bipush 24, 2) := by decide +kernel
theorem d_FO_widthPlace_3 : decode b_FO_widthPlace 3 = .ok (.iushr, 1) := by decide +kernel
theorem d_FO_widthPlace_4 : decode b_FO_widthPlace 4 = .ok (.ireturn, 1) := by decide +kernel
set_option maxHeartbeats 4000000 in
set_option maxRecDepth 100000 in
theorem c_FO_widthPlace (l : Launch) (dC : Nat → ClassId) (dI : Nat → Nat → Nat) (x : Int32)  : fm_M l (dC, dI) y_FO_widthPlace w_FO_widthPlace ({ frames := 0, cells := 0, slots := 0, locals := 0 }) [.int (x)] [] [] (nI (fm_by x 0)) := by
  refine Met.ofW (cc := b_FO_widthPlace) (maxL := 1) (ret := (some .int)) (by decide) rfl ?_
  intro pg ev s m args below meth cd s₁ BD hml hv
  obtain ⟨rfl, hP, hK⟩ := hv
  have hx := BD.exec
  have hb := BD.bytes
  have hr := BD.returns
  have hts := atoms_spec (ws := w_FO_widthPlace) BD.pre
  have ht : ∀ w ∈ fm_T, w.before _ s = true := fun w h => hts w (List.mem_cons_of_mem _ h)
  have hown : s.vm.findClass R_FO = some m.cls := findClass_of_methodNamed BD.named
  have hlocks := BD.notSynchronized
  have S : CallFix pg m cd b_FO_widthPlace 1 s _ w_FO_widthPlace R_FO := ⟨hx, hb, hml, hown, hts⟩
  have hl := lv_entry ([.int (x)]) (n := 1) (Nat.le_of_ble_eq_true rfl)
  rw [lg_entry_eq]
  generalize (lg_sl ([.int (x)]) ++ List.replicate (1 - (lg_sl ([.int (x)])).length) Slot.unset).toArray = ls at hl ⊢
  have hl : lv_has ls 1 [(0, .int (x))] := hl
  refine lv_iload_n hx hb d_FO_widthPlace_0 rfl (lv_at hl 0 rfl) ?_
  refine lv_bipush (v := nI (24)) hx hb d_FO_widthPlace_1 (by decide) ?_
  refine lv_iushr (v := nI (fm_tn x / 2 ^ 24)) hx hb d_FO_widthPlace_3 (fm_ush x (by decide)) ?_
  exact W.iret hx hb hr (fun t ht hW => ⟨_, rfl, fm_by0 x, ht⟩) (fun q hq => by cases hq) d_FO_widthPlace_4
theorem d_FO_heightPlace_0 : decode b_FO_heightPlace 0 = .ok (.iload_n 0, 1) := by decide +kernel
theorem d_FO_heightPlace_1 : decode b_FO_heightPlace 1 = .ok (.bipush 20, 2) := by decide +kernel
theorem d_FO_heightPlace_3 : decode b_FO_heightPlace 3 = .ok (.iushr, 1) := by decide +kernel
theorem d_FO_heightPlace_4 : decode b_FO_heightPlace 4 = .ok (.bipush 15, 2) := by decide +kernel
theorem d_FO_heightPlace_6 : decode b_FO_heightPlace 6 = .ok (.iand, 1) := by decide +kernel
theorem d_FO_heightPlace_7 : decode b_FO_heightPlace 7 = .ok (.ireturn, 1) := by decide +kernel
set_option maxHeartbeats 4000000 in
set_option maxRecDepth 100000 in
theorem c_FO_heightPlace (l : Launch) (dC : Nat → ClassId) (dI : Nat → Nat → Nat) (x : Int32)  : fm_M l (dC, dI) y_FO_heightPlace w_FO_heightPlace ({ frames := 0, cells := 0, slots := 0, locals := 0 }) [.int (x)] [] [] (nI (fm_by x 1 / 16)) := by
  refine Met.ofW (cc := b_FO_heightPlace) (maxL := 1) (ret := (some .int)) (by decide) rfl ?_
  intro pg ev s m args below meth cd s₁ BD hml hv
  obtain ⟨rfl, hP, hK⟩ := hv
  have hx := BD.exec
  have hb := BD.bytes
  have hr := BD.returns
  have hts := atoms_spec (ws := w_FO_heightPlace) BD.pre
  have ht : ∀ w ∈ fm_T, w.before _ s = true := fun w h => hts w (List.mem_cons_of_mem _ h)
  have hown : s.vm.findClass R_FO = some m.cls := findClass_of_methodNamed BD.named
  have hlocks := BD.notSynchronized
  have S : CallFix pg m cd b_FO_heightPlace 1 s _ w_FO_heightPlace R_FO := ⟨hx, hb, hml, hown, hts⟩
  have hl := lv_entry ([.int (x)]) (n := 1) (Nat.le_of_ble_eq_true rfl)
  rw [lg_entry_eq]
  generalize (lg_sl ([.int (x)]) ++ List.replicate (1 - (lg_sl ([.int (x)])).length) Slot.unset).toArray = ls at hl ⊢
  have hl : lv_has ls 1 [(0, .int (x))] := hl
  refine lv_iload_n hx hb d_FO_heightPlace_0 rfl (lv_at hl 0 rfl) ?_
  refine lv_bipush (v := nI (20)) hx hb d_FO_heightPlace_1 (by decide) ?_
  refine lv_iushr (v := nI (fm_tn x / 2 ^ 20)) hx hb d_FO_heightPlace_3 (fm_ush x (by decide)) ?_
  refine lv_bipush (v := nI (15)) hx hb d_FO_heightPlace_4 (by decide) ?_
  refine lv_iand hx hb d_FO_heightPlace_6 ?_
  refine fm_tw (z := nI (fm_tn x / 2 ^ 20 % 2 ^ 4)) (fm_mk x (by decide)) ?_
  exact W.iret hx hb hr (fun t ht hW => ⟨_, rfl, fm_by1h x, ht⟩) (fun q hq => by cases hq) d_FO_heightPlace_7
theorem d_FO_depthPlace_0 : decode b_FO_depthPlace 0 = .ok (.iload_n 0, 1) := by decide +kernel
theorem d_FO_depthPlace_1 : decode b_FO_depthPlace 1 = .ok (.bipush 16, 2) := by decide +kernel
theorem d_FO_depthPlace_3 : decode b_FO_depthPlace 3 = .ok (.iushr, 1) := by decide +kernel
theorem d_FO_depthPlace_4 : decode b_FO_depthPlace 4 = .ok (.bipush 15, 2) := by decide +kernel
theorem d_FO_depthPlace_6 : decode b_FO_depthPlace 6 = .ok (.iand, 1) := by decide +kernel
theorem d_FO_depthPlace_7 : decode b_FO_depthPlace 7 = .ok (.ireturn, 1) := by decide +kernel
set_option maxHeartbeats 4000000 in
set_option maxRecDepth 100000 in
theorem c_FO_depthPlace (l : Launch) (dC : Nat → ClassId) (dI : Nat → Nat → Nat) (x : Int32)  : fm_M l (dC, dI) y_FO_depthPlace w_FO_depthPlace ({ frames := 0, cells := 0, slots := 0, locals := 0 }) [.int (x)] [] [] (nI (fm_by x 1 % 16)) := by
  refine Met.ofW (cc := b_FO_depthPlace) (maxL := 1) (ret := (some .int)) (by decide) rfl ?_
  intro pg ev s m args below meth cd s₁ BD hml hv
  obtain ⟨rfl, hP, hK⟩ := hv
  have hx := BD.exec
  have hb := BD.bytes
  have hr := BD.returns
  have hts := atoms_spec (ws := w_FO_depthPlace) BD.pre
  have ht : ∀ w ∈ fm_T, w.before _ s = true := fun w h => hts w (List.mem_cons_of_mem _ h)
  have hown : s.vm.findClass R_FO = some m.cls := findClass_of_methodNamed BD.named
  have hlocks := BD.notSynchronized
  have S : CallFix pg m cd b_FO_depthPlace 1 s _ w_FO_depthPlace R_FO := ⟨hx, hb, hml, hown, hts⟩
  have hl := lv_entry ([.int (x)]) (n := 1) (Nat.le_of_ble_eq_true rfl)
  rw [lg_entry_eq]
  generalize (lg_sl ([.int (x)]) ++ List.replicate (1 - (lg_sl ([.int (x)])).length) Slot.unset).toArray = ls at hl ⊢
  have hl : lv_has ls 1 [(0, .int (x))] := hl
  refine lv_iload_n hx hb d_FO_depthPlace_0 rfl (lv_at hl 0 rfl) ?_
  refine lv_bipush (v := nI (16)) hx hb d_FO_depthPlace_1 (by decide) ?_
  refine lv_iushr (v := nI (fm_tn x / 2 ^ 16)) hx hb d_FO_depthPlace_3 (fm_ush x (by decide)) ?_
  refine lv_bipush (v := nI (15)) hx hb d_FO_depthPlace_4 (by decide) ?_
  refine lv_iand hx hb d_FO_depthPlace_6 ?_
  refine fm_tw (z := nI (fm_tn x / 2 ^ 16 % 2 ^ 4)) (fm_mk x (by decide)) ?_
  exact W.iret hx hb hr (fun t ht hW => ⟨_, rfl, fm_by1l x, ht⟩) (fun q hq => by cases hq) d_FO_depthPlace_7
theorem d_FO_italicPlace_0 : decode b_FO_italicPlace 0 = .ok (.iload_n 0, 1) := by decide +kernel
theorem d_FO_italicPlace_1 : decode b_FO_italicPlace 1 = .ok (.bipush 10, 2) := by decide +kernel
theorem d_FO_italicPlace_3 : decode b_FO_italicPlace 3 = .ok (.iushr, 1) := by decide +kernel
theorem d_FO_italicPlace_4 : decode b_FO_italicPlace 4 = .ok (.bipush 63, 2) := by decide +kernel
theorem d_FO_italicPlace_6 : decode b_FO_italicPlace 6 = .ok (.iand, 1) := by decide +kernel
theorem d_FO_italicPlace_7 : decode b_FO_italicPlace 7 = .ok (.ireturn, 1) := by decide +kernel
set_option maxHeartbeats 4000000 in
set_option maxRecDepth 100000 in
theorem c_FO_italicPlace (l : Launch) (dC : Nat → ClassId) (dI : Nat → Nat → Nat) (x : Int32)  : fm_M l (dC, dI) y_FO_italicPlace w_FO_italicPlace ({ frames := 0, cells := 0, slots := 0, locals := 0 }) [.int (x)] [] [] (nI (fm_by x 2 / 4)) := by
  refine Met.ofW (cc := b_FO_italicPlace) (maxL := 1) (ret := (some .int)) (by decide) rfl ?_
  intro pg ev s m args below meth cd s₁ BD hml hv
  obtain ⟨rfl, hP, hK⟩ := hv
  have hx := BD.exec
  have hb := BD.bytes
  have hr := BD.returns
  have hts := atoms_spec (ws := w_FO_italicPlace) BD.pre
  have ht : ∀ w ∈ fm_T, w.before _ s = true := fun w h => hts w (List.mem_cons_of_mem _ h)
  have hown : s.vm.findClass R_FO = some m.cls := findClass_of_methodNamed BD.named
  have hlocks := BD.notSynchronized
  have S : CallFix pg m cd b_FO_italicPlace 1 s _ w_FO_italicPlace R_FO := ⟨hx, hb, hml, hown, hts⟩
  have hl := lv_entry ([.int (x)]) (n := 1) (Nat.le_of_ble_eq_true rfl)
  rw [lg_entry_eq]
  generalize (lg_sl ([.int (x)]) ++ List.replicate (1 - (lg_sl ([.int (x)])).length) Slot.unset).toArray = ls at hl ⊢
  have hl : lv_has ls 1 [(0, .int (x))] := hl
  refine lv_iload_n hx hb d_FO_italicPlace_0 rfl (lv_at hl 0 rfl) ?_
  refine lv_bipush (v := nI (10)) hx hb d_FO_italicPlace_1 (by decide) ?_
  refine lv_iushr (v := nI (fm_tn x / 2 ^ 10)) hx hb d_FO_italicPlace_3 (fm_ush x (by decide)) ?_
  refine lv_bipush (v := nI (63)) hx hb d_FO_italicPlace_4 (by decide) ?_
  refine lv_iand hx hb d_FO_italicPlace_6 ?_
  refine fm_tw (z := nI (fm_tn x / 2 ^ 10 % 2 ^ 6)) (fm_mk x (by decide)) ?_
  exact W.iret hx hb hr (fun t ht hW => ⟨_, rfl, fm_by2h x, ht⟩) (fun q hq => by cases hq) d_FO_italicPlace_7
theorem d_FO_tag_0 : decode b_FO_tag 0 = .ok (.iload_n 0, 1) := by decide +kernel
theorem d_FO_tag_1 : decode b_FO_tag 1 = .ok (.bipush 8, 2) := by decide +kernel
theorem d_FO_tag_3 : decode b_FO_tag 3 = .ok (.iushr, 1) := by decide +kernel
theorem d_FO_tag_4 : decode b_FO_tag 4 = .ok (.iconst 3, 1) := by decide +kernel
theorem d_FO_tag_5 : decode b_FO_tag 5 = .ok (.iand, 1) := by decide +kernel
theorem d_FO_tag_6 : decode b_FO_tag 6 = .ok (.ireturn, 1) := by decide +kernel
set_option maxHeartbeats 4000000 in
set_option maxRecDepth 100000 in
theorem c_FO_tag (l : Launch) (dC : Nat → ClassId) (dI : Nat → Nat → Nat) (x : Int32)  : fm_M l (dC, dI) y_FO_tag w_FO_tag ({ frames := 0, cells := 0, slots := 0, locals := 0 }) [.int (x)] [] [] (nI (fm_by x 2 % 4)) := by
  refine Met.ofW (cc := b_FO_tag) (maxL := 1) (ret := (some .int)) (by decide) rfl ?_
  intro pg ev s m args below meth cd s₁ BD hml hv
  obtain ⟨rfl, hP, hK⟩ := hv
  have hx := BD.exec
  have hb := BD.bytes
  have hr := BD.returns
  have hts := atoms_spec (ws := w_FO_tag) BD.pre
  have ht : ∀ w ∈ fm_T, w.before _ s = true := fun w h => hts w (List.mem_cons_of_mem _ h)
  have hown : s.vm.findClass R_FO = some m.cls := findClass_of_methodNamed BD.named
  have hlocks := BD.notSynchronized
  have S : CallFix pg m cd b_FO_tag 1 s _ w_FO_tag R_FO := ⟨hx, hb, hml, hown, hts⟩
  have hl := lv_entry ([.int (x)]) (n := 1) (Nat.le_of_ble_eq_true rfl)
  rw [lg_entry_eq]
  generalize (lg_sl ([.int (x)]) ++ List.replicate (1 - (lg_sl ([.int (x)])).length) Slot.unset).toArray = ls at hl ⊢
  have hl : lv_has ls 1 [(0, .int (x))] := hl
  refine lv_iload_n hx hb d_FO_tag_0 rfl (lv_at hl 0 rfl) ?_
  refine lv_bipush (v := nI (8)) hx hb d_FO_tag_1 (by decide) ?_
  refine lv_iushr (v := nI (fm_tn x / 2 ^ 8)) hx hb d_FO_tag_3 (fm_ush x (by decide)) ?_
  refine lv_iconst (v := nI (3)) hx hb d_FO_tag_4 (by decide) ?_
  refine lv_iand hx hb d_FO_tag_5 ?_
  refine fm_tw (z := nI (fm_tn x / 2 ^ 8 % 2 ^ 2)) (fm_mk x (by decide)) ?_
  exact W.iret hx hb hr (fun t ht hW => ⟨_, rfl, fm_by2l x, ht⟩) (fun q hq => by cases hq) d_FO_tag_6
theorem d_FO_rest_0 : decode b_FO_rest 0 = .ok (.iload_n 0, 1) := by decide +kernel
theorem d_FO_rest_1 : decode b_FO_rest 1 = .ok (.sipush 255, 3) := by decide +kernel
theorem d_FO_rest_4 : decode b_FO_rest 4 = .ok (.iand, 1) := by decide +kernel
theorem d_FO_rest_5 : decode b_FO_rest 5 = .ok (.ireturn, 1) := by decide +kernel
set_option maxHeartbeats 4000000 in
set_option maxRecDepth 100000 in
theorem c_FO_rest (l : Launch) (dC : Nat → ClassId) (dI : Nat → Nat → Nat) (x : Int32)  : fm_M l (dC, dI) y_FO_rest w_FO_rest ({ frames := 0, cells := 0, slots := 0, locals := 0 }) [.int (x)] [] [] (nI (fm_by x 3)) := by
  refine Met.ofW (cc := b_FO_rest) (maxL := 1) (ret := (some .int)) (by decide) rfl ?_
  intro pg ev s m args below meth cd s₁ BD hml hv
  obtain ⟨rfl, hP, hK⟩ := hv
  have hx := BD.exec
  have hb := BD.bytes
  have hr := BD.returns
  have hts := atoms_spec (ws := w_FO_rest) BD.pre
  have ht : ∀ w ∈ fm_T, w.before _ s = true := fun w h => hts w (List.mem_cons_of_mem _ h)
  have hown : s.vm.findClass R_FO = some m.cls := findClass_of_methodNamed BD.named
  have hlocks := BD.notSynchronized
  have S : CallFix pg m cd b_FO_rest 1 s _ w_FO_rest R_FO := ⟨hx, hb, hml, hown, hts⟩
  have hl := lv_entry ([.int (x)]) (n := 1) (Nat.le_of_ble_eq_true rfl)
  rw [lg_entry_eq]
  generalize (lg_sl ([.int (x)]) ++ List.replicate (1 - (lg_sl ([.int (x)])).length) Slot.unset).toArray = ls at hl ⊢
  have hl : lv_has ls 1 [(0, .int (x))] := hl
  refine lv_iload_n hx hb d_FO_rest_0 rfl (lv_at hl 0 rfl) ?_
  refine lv_sipush (v := nI (255)) hx hb d_FO_rest_1 (by decide) ?_
  refine lv_iand hx hb d_FO_rest_4 ?_
  refine fm_tw (z := nI (fm_by x 3)) (fm_by3 x) ?_
  exact W.iret hx hb hr (fun t ht hW => ⟨_, rfl, rfl, ht⟩) (fun q hq => by cases hq) d_FO_rest_5
theorem d_FO_startOfCharacter_0 : decode b_FO_startOfCharacter 0 = .ok (.iload_n 0, 1) := by decide +kernel
theorem d_FO_startOfCharacter_1 : decode b_FO_startOfCharacter 1 = .ok (.invokestatic 70, 3) := by decide +kernel
theorem d_FO_startOfCharacter_4 : decode b_FO_startOfCharacter 4 = .ok (.ifCond .eq 18, 3) := by decide +kernel
theorem d_FO_startOfCharacter_7 : decode b_FO_startOfCharacter 7 = .ok (.iload_n 0, 1) := by decide +kernel
theorem d_FO_startOfCharacter_8 : decode b_FO_startOfCharacter 8 = .ok (.invokestatic 107, 3) := by decide +kernel
theorem d_FO_startOfCharacter_11 : decode b_FO_startOfCharacter 11 = .ok (.iconst 1, 1) := by decide +kernel
theorem d_FO_startOfCharacter_12 : decode b_FO_startOfCharacter 12 = .ok (.if_icmp .ne 10, 3) := by decide +kernel
theorem d_FO_startOfCharacter_15 : decode b_FO_startOfCharacter 15 = .ok (.iload_n 0, 1) := by decide +kernel
theorem d_FO_startOfCharacter_16 : decode b_FO_startOfCharacter 16 = .ok (.invokestatic 110, 3) := by decide +kernel
theorem d_FO_startOfCharacter_19 : decode b_FO_startOfCharacter 19 = .ok (.goto 4, 3) := by decide +kernel
theorem d_FO_startOfCharacter_22 : decode b_FO_startOfCharacter 22 = .ok (.iconst (-1), 1) := by decide +kernel
theorem d_FO_startOfCharacter_23 : decode b_FO_startOfCharacter 23 = .ok (.ireturn, 1) := by decide +kernel
set_option maxHeartbeats 4000000 in
set_option maxRecDepth 100000 in
theorem c_FO_startOfCharacter (l : Launch) (dC : Nat → ClassId) (dI : Nat → Nat → Nat) (x : Int32)  : fm_M l (dC, dI) y_FO_startOfCharacter w_FO_startOfCharacter ({ frames := 1, cells := 0, slots := 0, locals := 20 }) [.int (x)] [] [] ((if fm_by x 0 ≠ 0 ∧ fm_by x 2 % 4 = 1 then nI (fm_by x 3) else -1)) := by
  refine Met.ofW (cc := b_FO_startOfCharacter) (maxL := 1) (ret := (some .int)) (by decide) rfl ?_
  intro pg ev s m args below meth cd s₁ BD hml hv
  obtain ⟨rfl, hP, hK⟩ := hv
  have hx := BD.exec
  have hb := BD.bytes
  have hr := BD.returns
  have hts := atoms_spec (ws := w_FO_startOfCharacter) BD.pre
  have ht : ∀ w ∈ fm_T, w.before _ s = true := fun w h => hts w (List.mem_cons_of_mem _ h)
  have hown : s.vm.findClass R_FO = some m.cls := findClass_of_methodNamed BD.named
  have hlocks := BD.notSynchronized
  have S : CallFix pg m cd b_FO_startOfCharacter 1 s _ w_FO_startOfCharacter R_FO := ⟨hx, hb, hml, hown, hts⟩
  have hl := lv_entry ([.int (x)]) (n := 1) (Nat.le_of_ble_eq_true rfl)
  rw [lg_entry_eq]
  generalize (lg_sl ([.int (x)]) ++ List.replicate (1 - (lg_sl ([.int (x)])).length) Slot.unset).toArray = ls at hl ⊢
  have hl : lv_has ls 1 [(0, .int (x))] := hl
  refine lv_iload_n hx hb d_FO_startOfCharacter_0 rfl (lv_at hl 0 rfl) ?_
  refine fm_cs S (c_FO_widthPlace l dC dI x ) rfl rfl k_FO_widthPlace q_1_157 ⟨Nat.le_of_ble_eq_true rfl, Nat.le_of_ble_eq_true rfl⟩ (hP.sub [] rfl) (hK.sub [] rfl) rfl hl.1 rfl (Nat.le_of_ble_eq_true rfl) ⟨Nat.zero_le _, Nat.zero_le _⟩ d_FO_startOfCharacter_1 ?_
  have f0_1 := fm_by_lt x 0
  refine lv_if_eq (tgt := 22) hx hb d_FO_startOfCharacter_4 (by decide) (fun c0 => ?_) (fun c0 => ?_)
  · have c_4 : fm_by x 0 = 0 := (nI_eq (a := fm_by x 0) (b := 0) (by omega) (by omega)).mp c0
    refine lv_iconst (v := ((-1))) hx hb d_FO_startOfCharacter_22 (by decide) ?_
    exact W.iret hx hb hr (fun t ht hW => ⟨_, rfl, by first | (rw [if_neg (fun z => z.1 c_4)]; done) | (rw [if_neg (fun z => c_12 z.2)]; done), ht⟩) (fun q hq => by cases hq) d_FO_startOfCharacter_23
  · have c_4 : ¬ (fm_by x 0 = 0) := fun z => c0 ((nI_eq (a := fm_by x 0) (b := 0) (by omega) (by omega)).mpr z)
    refine lv_iload_n hx hb d_FO_startOfCharacter_7 rfl (lv_at hl 0 rfl) ?_
    refine fm_cs S (c_FO_tag l dC dI x ) rfl rfl k_FO_tag q_3_29 ⟨Nat.le_of_ble_eq_true rfl, Nat.le_of_ble_eq_true rfl⟩ (hP.sub [] rfl) (hK.sub [] rfl) rfl hl.1 rfl (Nat.le_of_ble_eq_true rfl) ⟨Nat.zero_le _, Nat.zero_le _⟩ d_FO_startOfCharacter_8 ?_
    have f0_8 := fm_by_lt x 2
    refine lv_iconst (v := nI (1)) hx hb d_FO_startOfCharacter_11 (by decide) ?_
    refine lv_icmp_ne (tgt := 22) hx hb d_FO_startOfCharacter_12 (by decide) (fun c0 => ?_) (fun c0 => ?_)
    · have c_12 : ¬ (fm_by x 2 % 4 = 1) := fun z => c0 ((nI_eq (a := fm_by x 2 % 4) (b := 1) (by omega) (by omega)).mpr z)
      refine lv_iconst (v := ((-1))) hx hb d_FO_startOfCharacter_22 (by decide) ?_
      exact W.iret hx hb hr (fun t ht hW => ⟨_, rfl, by first | (rw [if_neg (fun z => z.1 c_4)]; done) | (rw [if_neg (fun z => c_12 z.2)]; done), ht⟩) (fun q hq => by cases hq) d_FO_startOfCharacter_23
    · have c_12 : fm_by x 2 % 4 = 1 := (nI_eq (a := fm_by x 2 % 4) (b := 1) (by omega) (by omega)).mp c0
      refine lv_iload_n hx hb d_FO_startOfCharacter_15 rfl (lv_at hl 0 rfl) ?_
      refine fm_cs S (c_FO_rest l dC dI x ) rfl rfl k_FO_rest q_3_30 ⟨Nat.le_of_ble_eq_true rfl, Nat.le_of_ble_eq_true rfl⟩ (hP.sub [] rfl) (hK.sub [] rfl) rfl hl.1 rfl (Nat.le_of_ble_eq_true rfl) ⟨Nat.zero_le _, Nat.zero_le _⟩ d_FO_startOfCharacter_16 ?_
      have f0_16 := fm_by_lt x 3
      refine lv_goto (tgt := 23) hx hb d_FO_startOfCharacter_19 (by decide) ?_
      exact W.iret hx hb hr (fun t ht hW => ⟨_, rfl, by rw [if_pos ⟨c_4, c_12⟩], ht⟩) (fun q hq => by cases hq) d_FO_startOfCharacter_23
theorem d_FO_number_0 : decode b_FO_number 0 = .ok (.iload_n 1, 1) := by decide +kernel
theorem d_FO_number_1 : decode b_FO_number 1 = .ok (.iconst 2, 1) := by decide +kernel
theorem d_FO_number_2 : decode b_FO_number 2 = .ok (.idiv, 1) := by decide +kernel
theorem d_FO_number_3 : decode b_FO_number 3 = .ok (.istore_n 2, 1) := by decide +kernel
theorem d_FO_number_4 : decode b_FO_number 4 = .ok (.iload_n 2, 1) := by decide +kernel
theorem d_FO_number_5 : decode b_FO_number 5 = .ok (.ifCond .lt 21, 3) := by decide +kernel
theorem d_FO_number_8 : decode b_FO_number 8 = .ok (.iload_n 2, 1) := by decide +kernel
theorem d_FO_number_9 : decode b_FO_number 9 = .ok (.aload_n 0, 1) := by decide +kernel
theorem d_FO_number_10 : decode b_FO_number 10 = .ok (.getfield 11, 3) := by decide +kernel
theorem d_FO_number_13 : decode b_FO_number 13 = .ok (.arraylength, 1) := by decide +kernel
theorem d_FO_number_14 : decode b_FO_number 14 = .ok (.if_icmp .ge 12, 3) := by decide +kernel
theorem d_FO_number_17 : decode b_FO_number 17 = .ok (.aload_n 0, 1) := by decide +kernel
theorem d_FO_number_18 : decode b_FO_number 18 = .ok (.getfield 11, 3) := by decide +kernel
theorem d_FO_number_21 : decode b_FO_number 21 = .ok (.iload_n 2, 1) := by decide +kernel
theorem d_FO_number_22 : decode b_FO_number 22 = .ok (.iaload, 1) := by decide +kernel
theorem d_FO_number_23 : decode b_FO_number 23 = .ok (.goto 4, 3) := by decide +kernel
theorem d_FO_number_26 : decode b_FO_number 26 = .ok (.iconst 0, 1) := by decide +kernel
theorem d_FO_number_27 : decode b_FO_number 27 = .ok (.istore_n 3, 1) := by decide +kernel
theorem d_FO_number_28 : decode b_FO_number 28 = .ok (.iload_n 1, 1) := by decide +kernel
theorem d_FO_number_29 : decode b_FO_number 29 = .ok (.iconst 2, 1) := by decide +kernel
theorem d_FO_number_30 : decode b_FO_number 30 = .ok (.irem, 1) := by decide +kernel
theorem d_FO_number_31 : decode b_FO_number 31 = .ok (.ifCond .ne 10, 3) := by decide +kernel
theorem d_FO_number_34 : decode b_FO_number 34 = .ok (.iload_n 3, 1) := by decide +kernel
theorem d_FO_number_35 : decode b_FO_number 35 = .ok (.bipush 16, 2) := by decide +kernel
theorem d_FO_number_37 : decode b_FO_number 37 = .ok (.iushr, 1) := by decide +kernel
theorem d_FO_number_38 : decode b_FO_number 38 = .ok (.goto 7, 3) := by decide +kernel
theorem d_FO_number_41 : decode b_FO_number 41 = .ok (.iload_n 3, 1) := by decide +kernel
theorem d_FO_number_42 : decode b_FO_number 42 = .ok (.ldc 59, 2) := by decide +kernel
theorem d_FO_number_44 : decode b_FO_number 44 = .ok (.iand, 1) := by decide +kernel
theorem d_FO_number_45 : decode b_FO_number 45 = .ok (.ireturn, 1) := by decide +kernel
set_option maxHeartbeats 4000000 in
set_option maxRecDepth 100000 in
theorem c_FO_number (l : Launch) (dC : Nat → ClassId) (dI : Nat → Nat → Nat) (o : Nat) (wa : Nat) (sa : Nat) (la : Nat) (bc : Int32) (ec : Int32) (sz : Int32) (sc : Int32) (hv : Int32) (cI : ClassId) (w : Nat → Int32) (st : Nat → Int32) (ln : Nat → Int32) (i : Nat) (hi : i < 12) : fm_M l (dC, dI) y_FO_number w_FO_number ({ frames := 0, cells := 0, slots := 0, locals := 0 }) [.ref o, .int (nI (i))] [(o, .inr (1, [.ref wa, .ref sa, .ref la, .int (bc), .int (ec), .int (sz), .int (sc), .int (hv)])), (wa, .inl (cI, 2048, .inl (w))), (sa, .inl (cI, 10, .inl (st))), (la, .inl (cI, 10, .inl (ln)))] [(cI, .int)] (nI (fm_nb w i)) := by
  refine Met.ofW (cc := b_FO_number) (maxL := 4) (ret := (some .int)) (by decide) rfl ?_
  intro pg ev s m args below meth cd s₁ BD hml hv
  obtain ⟨rfl, hP, hK⟩ := hv
  have hx := BD.exec
  have hb := BD.bytes
  have hr := BD.returns
  have hts := atoms_spec (ws := w_FO_number) BD.pre
  have ht : ∀ w ∈ fm_T, w.before _ s = true := fun w h => hts w (List.mem_cons_of_mem _ h)
  have hown : s.vm.findClass R_FO = some m.cls := findClass_of_methodNamed BD.named
  have hlocks := BD.notSynchronized
  have S : CallFix pg m cd b_FO_number 4 s _ w_FO_number R_FO := ⟨hx, hb, hml, hown, hts⟩
  have hl := lv_entry ([.ref o, .int (nI (i))]) (n := 4) (Nat.le_of_ble_eq_true rfl)
  rw [lg_entry_eq]
  generalize (lg_sl ([.ref o, .int (nI (i))]) ++ List.replicate (4 - (lg_sl ([.ref o, .int (nI (i))])).length) Slot.unset).toArray = ls at hl ⊢
  have hl : lv_has ls 4 [(0, .ref o), (1, .int (nI (i)))] := hl
  refine lv_iload_n hx hb d_FO_number_0 rfl (lv_at hl 1 rfl) ?_
  refine lv_iconst (v := nI (2)) hx hb d_FO_number_1 (by decide) ?_
  refine lv_idiv hx hb d_FO_number_2 (by decide) ?_
  refine fm_tw (z := nI (i / 2)) (pk_div (by omega) (by omega) (by omega)) ?_
  refine lv_istore_n (lv' := [(2, .int (nI (i / 2))), (0, .ref o), (1, .int (nI (i)))]) hx hb d_FO_number_3 rfl hl (by decide) rfl (fun ls hl => ?_)
  refine lv_iload_n hx hb d_FO_number_4 rfl (lv_at hl 0 rfl) ?_
  refine lv_if_lt (tgt := 26) hx hb d_FO_number_5 (by decide) (fun c0 => ?_) (fun c0 => ?_)
  · have c_5 : i / 2 < 0 := (nI_ltI (a := i / 2) (b := 0) (by omega) (by omega)).mp c0
    exact absurd c_5 (by omega)
  · have c_5 : ¬ (i / 2 < 0) := fun z => c0 ((nI_ltI (a := i / 2) (b := 0) (by omega) (by omega)).mpr z)
    refine lv_iload_n hx hb d_FO_number_8 rfl (lv_at hl 0 rfl) ?_
    refine lv_aload_n hx hb d_FO_number_9 rfl (lv_at hl 1 rfl) ?_
    refine va_get (D := (dC, dI)) (ci := 1) (v := .ref wa) (C := R_FO) (T := F_FO) (N := 8) hx hb ht i_FO hown hK hP 0 rfl rfl 0 (by decide) (ht _ q_1_69) (fun _ h9 => h9) rfl d_FO_number_10 ?_
    refine va_alen hx hb hK hP 1 0 rfl rfl (v := nI (2048)) rfl d_FO_number_13 ?_
    refine lv_icmp_ge (tgt := 26) hx hb d_FO_number_14 (by decide) (fun c0 => ?_) (fun c0 => ?_)
    · have c_14 : 2048 ≤ i / 2 := (nI_leI (a := 2048) (b := i / 2) (by omega) (by omega)).mp c0
      exact absurd c_14 (by omega)
    · have c_14 : ¬ (2048 ≤ i / 2) := fun z => c0 ((nI_leI (a := 2048) (b := i / 2) (by omega) (by omega)).mpr z)
      refine lv_aload_n hx hb d_FO_number_17 rfl (lv_at hl 1 rfl) ?_
      refine va_get (D := (dC, dI)) (ci := 1) (v := .ref wa) (C := R_FO) (T := F_FO) (N := 8) hx hb ht i_FO hown hK hP 0 rfl rfl 0 (by decide) (ht _ q_1_69) (fun _ h9 => h9) rfl d_FO_number_18 ?_
      refine lv_iload_n hx hb d_FO_number_21 rfl (lv_at hl 0 rfl) ?_
      refine va_iald hx hb hK hP 1 0 rfl rfl (vp_in_nI (by omega) (by omega)) d_FO_number_22 ?_
      refine fm_tw (z := w (i / 2)) (by rw [nI_clamp (by omega)]) ?_
      refine lv_goto (tgt := 27) hx hb d_FO_number_23 (by decide) ?_
      refine lv_istore_n (lv' := [(3, .int (w (i / 2))), (2, .int (nI (i / 2))), (0, .ref o), (1, .int (nI (i)))]) hx hb d_FO_number_27 rfl hl (by decide) rfl (fun ls hl => ?_)
      refine lv_iload_n hx hb d_FO_number_28 rfl (lv_at hl 3 rfl) ?_
      refine lv_iconst (v := nI (2)) hx hb d_FO_number_29 (by decide) ?_
      refine lv_irem hx hb d_FO_number_30 (by decide) ?_
      refine fm_tw (z := nI (i % 2)) (pk_rem (by omega) (by omega) (by omega)) ?_
      refine lv_if_ne (tgt := 41) hx hb d_FO_number_31 (by decide) (fun c0 => ?_) (fun c0 => ?_)
      · have c_31 : ¬ (i % 2 = 0) := fun z => c0 ((nI_eq (a := i % 2) (b := 0) (by omega) (by omega)).mpr z)
        refine lv_iload_n hx hb d_FO_number_41 rfl (lv_at hl 0 rfl) ?_
        refine lv_ldc (own := R_FO) (v := nI (65535)) hx hb hown (ht _ q_2_43) d_FO_number_42 ?_
        refine lv_iand hx hb d_FO_number_44 ?_
        refine fm_tw (z := nI (fm_tn (w (i / 2)) % 2 ^ 16)) (pk_and _ 16 (by decide)) ?_
        exact W.iret hx hb hr (fun t ht hW => ⟨_, rfl, by first | (rw [fm_nb, if_pos c_31]; done) | (rw [fm_nb, if_neg c_31]; done), ht⟩) (fun q hq => by cases hq) d_FO_number_45
      · have c_31 : i % 2 = 0 := (nI_eq (a := i % 2) (b := 0) (by omega) (by omega)).mp c0
        refine lv_iload_n hx hb d_FO_number_34 rfl (lv_at hl 0 rfl) ?_
        refine lv_bipush (v := nI (16)) hx hb d_FO_number_35 (by decide) ?_
        refine lv_iushr (v := nI (fm_tn (w (i / 2)) / 2 ^ 16)) hx hb d_FO_number_37 (fm_ush _ (by decide)) ?_
        refine lv_goto (tgt := 45) hx hb d_FO_number_38 (by decide) ?_
        exact W.iret hx hb hr (fun t ht hW => ⟨_, rfl, by first | (rw [fm_nb, if_pos c_31]; done) | (rw [fm_nb, if_neg c_31]; done), ht⟩) (fun q hq => by cases hq) d_FO_number_45
theorem d_FO_lengthOf_0 : decode b_FO_lengthOf 0 = .ok (.iload_n 1, 1) := by decide +kernel
theorem d_FO_lengthOf_1 : decode b_FO_lengthOf 1 = .ok (.ifCond .lt 18, 3) := by decide +kernel
theorem d_FO_lengthOf_4 : decode b_FO_lengthOf 4 = .ok (.iload_n 1, 1) := by decide +kernel
theorem d_FO_lengthOf_5 : decode b_FO_lengthOf 5 = .ok (.bipush 10, 2) := by decide +kernel
theorem d_FO_lengthOf_7 : decode b_FO_lengthOf 7 = .ok (.if_icmp .ge 12, 3) := by decide +kernel
theorem d_FO_lengthOf_10 : decode b_FO_lengthOf 10 = .ok (.aload_n 0, 1) := by decide +kernel
theorem d_FO_lengthOf_11 : decode b_FO_lengthOf 11 = .ok (.getfield 20, 3) := by decide +kernel
theorem d_FO_lengthOf_14 : decode b_FO_lengthOf 14 = .ok (.iload_n 1, 1) := by decide +kernel
theorem d_FO_lengthOf_15 : decode b_FO_lengthOf 15 = .ok (.iaload, 1) := by decide +kernel
theorem d_FO_lengthOf_16 : decode b_FO_lengthOf 16 = .ok (.goto 4, 3) := by decide +kernel
theorem d_FO_lengthOf_19 : decode b_FO_lengthOf 19 = .ok (.iconst 0, 1) := by decide +kernel
theorem d_FO_lengthOf_20 : decode b_FO_lengthOf 20 = .ok (.ireturn, 1) := by decide +kernel
set_option maxHeartbeats 4000000 in
set_option maxRecDepth 100000 in
theorem c_FO_lengthOf (l : Launch) (dC : Nat → ClassId) (dI : Nat → Nat → Nat) (o : Nat) (wa : Nat) (sa : Nat) (la : Nat) (bc : Int32) (ec : Int32) (sz : Int32) (sc : Int32) (hv : Int32) (cI : ClassId) (w : Nat → Int32) (st : Nat → Int32) (ln : Nat → Int32) (p : Nat) (hp : p < 10) : fm_M l (dC, dI) y_FO_lengthOf w_FO_lengthOf ({ frames := 0, cells := 0, slots := 0, locals := 0 }) [.ref o, .int (nI (p))] [(o, .inr (1, [.ref wa, .ref sa, .ref la, .int (bc), .int (ec), .int (sz), .int (sc), .int (hv)])), (wa, .inl (cI, 2048, .inl (w))), (sa, .inl (cI, 10, .inl (st))), (la, .inl (cI, 10, .inl (ln)))] [(cI, .int)] ((ln p)) := by
  refine Met.ofW (cc := b_FO_lengthOf) (maxL := 2) (ret := (some .int)) (by decide) rfl ?_
  intro pg ev s m args below meth cd s₁ BD hml hv
  obtain ⟨rfl, hP, hK⟩ := hv
  have hx := BD.exec
  have hb := BD.bytes
  have hr := BD.returns
  have hts := atoms_spec (ws := w_FO_lengthOf) BD.pre
  have ht : ∀ w ∈ fm_T, w.before _ s = true := fun w h => hts w (List.mem_cons_of_mem _ h)
  have hown : s.vm.findClass R_FO = some m.cls := findClass_of_methodNamed BD.named
  have hlocks := BD.notSynchronized
  have S : CallFix pg m cd b_FO_lengthOf 2 s _ w_FO_lengthOf R_FO := ⟨hx, hb, hml, hown, hts⟩
  have hl := lv_entry ([.ref o, .int (nI (p))]) (n := 2) (Nat.le_of_ble_eq_true rfl)
  rw [lg_entry_eq]
  generalize (lg_sl ([.ref o, .int (nI (p))]) ++ List.replicate (2 - (lg_sl ([.ref o, .int (nI (p))])).length) Slot.unset).toArray = ls at hl ⊢
  have hl : lv_has ls 2 [(0, .ref o), (1, .int (nI (p)))] := hl
  refine lv_iload_n hx hb d_FO_lengthOf_0 rfl (lv_at hl 1 rfl) ?_
  refine lv_if_lt (tgt := 19) hx hb d_FO_lengthOf_1 (by decide) (fun c0 => ?_) (fun c0 => ?_)
  · have c_1 : p < 0 := (nI_ltI (a := p) (b := 0) (by omega) (by omega)).mp c0
    exact absurd c_1 (by omega)
  · have c_1 : ¬ (p < 0) := fun z => c0 ((nI_ltI (a := p) (b := 0) (by omega) (by omega)).mpr z)
    refine lv_iload_n hx hb d_FO_lengthOf_4 rfl (lv_at hl 1 rfl) ?_
    refine lv_bipush (v := nI (10)) hx hb d_FO_lengthOf_5 (by decide) ?_
    refine lv_icmp_ge (tgt := 19) hx hb d_FO_lengthOf_7 (by decide) (fun c0 => ?_) (fun c0 => ?_)
    · have c_7 : 10 ≤ p := (nI_leI (a := 10) (b := p) (by omega) (by omega)).mp c0
      exact absurd c_7 (by omega)
    · have c_7 : ¬ (10 ≤ p) := fun z => c0 ((nI_leI (a := 10) (b := p) (by omega) (by omega)).mpr z)
      refine lv_aload_n hx hb d_FO_lengthOf_10 rfl (lv_at hl 0 rfl) ?_
      refine va_get (D := (dC, dI)) (ci := 1) (v := .ref la) (C := R_FO) (T := F_FO) (N := 8) hx hb ht i_FO hown hK hP 0 rfl rfl 2 (by decide) (ht _ q_1_71) (fun _ h9 => h9) rfl d_FO_lengthOf_11 ?_
      refine lv_iload_n hx hb d_FO_lengthOf_14 rfl (lv_at hl 1 rfl) ?_
      refine va_iald hx hb hK hP 3 0 rfl rfl (vp_in_nI (by omega) (by omega)) d_FO_lengthOf_15 ?_
      refine fm_tw (z := ln (p)) (by rw [nI_clamp (by omega)]) ?_
      refine lv_goto (tgt := 20) hx hb d_FO_lengthOf_16 (by decide) ?_
      exact W.iret hx hb hr (fun t ht hW => ⟨_, rfl, rfl, ht⟩) (fun q hq => by cases hq) d_FO_lengthOf_20
theorem c_FO_lengthOfN (l : Launch) (dC : Nat → ClassId) (dI : Nat → Nat → Nat) (o : Nat) (wa : Nat) (sa : Nat) (la : Nat) (sz : Int32) (sc : Int32) (hv : Int32) (cI : ClassId) (B : Nat → Nat) (w : Nat → Int32) (st : Nat → Int32) (ln : Nat → Int32) (p : Nat) (hF : fm_FO B w st ln) (hp : p < 10) : fm_M l (dC, dI) y_FO_lengthOf w_FO_lengthOf ({ frames := 0, cells := 0, slots := 0, locals := 0 }) [.ref o, .int (nI (p))] [(o, .inr (1, [.ref wa, .ref sa, .ref la, .int (nI (fm_HF B 2)), .int (nI (fm_HF B 3)), .int (sz), .int (sc), .int (hv)])), (wa, .inl (cI, 2048, .inl (w))), (sa, .inl (cI, 10, .inl (st))), (la, .inl (cI, 10, .inl (ln)))] [(cI, .int)] (nI (fm_WD B p)) := by
  rw [← hF.2.2.2 p hp]
  exact c_FO_lengthOf l dC dI o wa sa la _ _ sz sc hv cI w st ln p hp
theorem d_FO_word_0 : decode b_FO_word 0 = .ok (.iload_n 1, 1) := by decide +kernel
theorem d_FO_word_1 : decode b_FO_word 1 = .ok (.ifCond .lt 23, 3) := by decide +kernel
theorem d_FO_word_4 : decode b_FO_word 4 = .ok (.iload_n 1, 1) := by decide +kernel
theorem d_FO_word_5 : decode b_FO_word 5 = .ok (.bipush 10, 2) := by decide +kernel
theorem d_FO_word_7 : decode b_FO_word 7 = .ok (.if_icmp .ge 17, 3) := by decide +kernel
theorem d_FO_word_10 : decode b_FO_word 10 = .ok (.iload_n 2, 1) := by decide +kernel
theorem d_FO_word_11 : decode b_FO_word 11 = .ok (.ifCond .lt 13, 3) := by decide +kernel
theorem d_FO_word_14 : decode b_FO_word 14 = .ok (.iload_n 2, 1) := by decide +kernel
theorem d_FO_word_15 : decode b_FO_word 15 = .ok (.aload_n 0, 1) := by decide +kernel
theorem d_FO_word_16 : decode b_FO_word 16 = .ok (.getfield 20, 3) := by decide +kernel
theorem d_FO_word_19 : decode b_FO_word 19 = .ok (.iload_n 1, 1) := by decide +kernel
theorem d_FO_word_20 : decode b_FO_word 20 = .ok (.iaload, 1) := by decide +kernel
theorem d_FO_word_21 : decode b_FO_word 21 = .ok (.if_icmp .lt 5, 3) := by decide +kernel
theorem d_FO_word_24 : decode b_FO_word 24 = .ok (.iconst 0, 1) := by decide +kernel
theorem d_FO_word_25 : decode b_FO_word 25 = .ok (.ireturn, 1) := by decide +kernel
theorem d_FO_word_26 : decode b_FO_word 26 = .ok (.aload_n 0, 1) := by decide +kernel
theorem d_FO_word_27 : decode b_FO_word 27 = .ok (.getfield 17, 3) := by decide +kernel
theorem d_FO_word_30 : decode b_FO_word 30 = .ok (.iload_n 1, 1) := by decide +kernel
theorem d_FO_word_31 : decode b_FO_word 31 = .ok (.iaload, 1) := by decide +kernel
theorem d_FO_word_32 : decode b_FO_word 32 = .ok (.iload_n 2, 1) := by decide +kernel
theorem d_FO_word_33 : decode b_FO_word 33 = .ok (.iadd, 1) := by decide +kernel
theorem d_FO_word_34 : decode b_FO_word 34 = .ok (.istore_n 3, 1) := by decide +kernel
theorem d_FO_word_35 : decode b_FO_word 35 = .ok (.iload_n 3, 1) := by decide +kernel
theorem d_FO_word_36 : decode b_FO_word 36 = .ok (.ifCond .lt 21, 3) := by decide +kernel
theorem d_FO_word_39 : decode b_FO_word 39 = .ok (.iload_n 3, 1) := by decide +kernel
theorem d_FO_word_40 : decode b_FO_word 40 = .ok (.aload_n 0, 1) := by decide +kernel
theorem d_FO_word_41 : decode b_FO_word 41 = .ok (.getfield 11, 3) := by decide +kernel
theorem d_FO_word_44 : decode b_FO_word 44 = .ok (.arraylength, 1) := by decide +kernel
theorem d_FO_word_45 : decode b_FO_word 45 = .ok (.if_icmp .ge 12, 3) := by decide +kernel
theorem d_FO_word_48 : decode b_FO_word 48 = .ok (.aload_n 0, 1) := by decide +kernel
theorem d_FO_word_49 : decode b_FO_word 49 = .ok (.getfield 11, 3) := by decide +kernel
theorem d_FO_word_52 : decode b_FO_word 52 = .ok (.iload_n 3, 1) := by decide +kernel
theorem d_FO_word_53 : decode b_FO_word 53 = .ok (.iaload, 1) := by decide +kernel
theorem d_FO_word_54 : decode b_FO_word 54 = .ok (.goto 4, 3) := by decide +kernel
theorem d_FO_word_57 : decode b_FO_word 57 = .ok (.iconst 0, 1) := by decide +kernel
theorem d_FO_word_58 : decode b_FO_word 58 = .ok (.ireturn, 1) := by decide +kernel
set_option maxHeartbeats 4000000 in
set_option maxRecDepth 100000 in
theorem c_FO_word (l : Launch) (dC : Nat → ClassId) (dI : Nat → Nat → Nat) (o : Nat) (wa : Nat) (sa : Nat) (la : Nat) (sz : Int32) (sc : Int32) (hv : Int32) (cI : ClassId) (B : Nat → Nat) (w : Nat → Int32) (st : Nat → Int32) (ln : Nat → Int32) (p : Nat) (x : Int32) (hF : fm_FO B w st ln) (hp : p < 10) : fm_M l (dC, dI) y_FO_word w_FO_word ({ frames := 0, cells := 0, slots := 0, locals := 0 }) [.ref o, .int (nI (p)), .int (x)] [(o, .inr (1, [.ref wa, .ref sa, .ref la, .int (nI (fm_HF B 2)), .int (nI (fm_HF B 3)), .int (sz), .int (sc), .int (hv)])), (wa, .inl (cI, 2048, .inl (w))), (sa, .inl (cI, 10, .inl (st))), (la, .inl (cI, 10, .inl (ln)))] [(cI, .int)] ((fm_wd B p x)) := by
  refine Met.ofW (cc := b_FO_word) (maxL := 4) (ret := (some .int)) (by decide) rfl ?_
  intro pg ev s m args below meth cd s₁ BD hml hv
  obtain ⟨rfl, hP, hK⟩ := hv
  have hx := BD.exec
  have hb := BD.bytes
  have hr := BD.returns
  have hts := atoms_spec (ws := w_FO_word) BD.pre
  have ht : ∀ w ∈ fm_T, w.before _ s = true := fun w h => hts w (List.mem_cons_of_mem _ h)
  have hown : s.vm.findClass R_FO = some m.cls := findClass_of_methodNamed BD.named
  have hlocks := BD.notSynchronized
  have S : CallFix pg m cd b_FO_word 4 s _ w_FO_word R_FO := ⟨hx, hb, hml, hown, hts⟩
  have hl := lv_entry ([.ref o, .int (nI (p)), .int (x)]) (n := 4) (Nat.le_of_ble_eq_true rfl)
  rw [lg_entry_eq]
  generalize (lg_sl ([.ref o, .int (nI (p)), .int (x)]) ++ List.replicate (4 - (lg_sl ([.ref o, .int (nI (p)), .int (x)])).length) Slot.unset).toArray = ls at hl ⊢
  have hl : lv_has ls 4 [(0, .ref o), (1, .int (nI (p))), (2, .int (x))] := hl
  have hB : ∀ i, B i < 256 := hF.1.1
  obtain ⟨hL, hFw, hFs, hFl⟩ := id hF
  obtain ⟨-, hq, h3, h10⟩ := id hL
  have hwd := fm_WD_le hB p
  have hst := fm_ST_le hB p
  refine lv_iload_n hx hb d_FO_word_0 rfl (lv_at hl 1 rfl) ?_
  refine lv_if_lt (tgt := 24) hx hb d_FO_word_1 (by decide) (fun c0 => ?_) (fun c0 => ?_)
  · have c_1 : p < 0 := (nI_ltI (a := p) (b := 0) (by omega) (by omega)).mp c0
    exact absurd c_1 (by omega)
  · have c_1 : ¬ (p < 0) := fun z => c0 ((nI_ltI (a := p) (b := 0) (by omega) (by omega)).mpr z)
    refine lv_iload_n hx hb d_FO_word_4 rfl (lv_at hl 1 rfl) ?_
    refine lv_bipush (v := nI (10)) hx hb d_FO_word_5 (by decide) ?_
    refine lv_icmp_ge (tgt := 24) hx hb d_FO_word_7 (by decide) (fun c0 => ?_) (fun c0 => ?_)
    · have c_7 : 10 ≤ p := (nI_leI (a := 10) (b := p) (by omega) (by omega)).mp c0
      exact absurd c_7 (by omega)
    · have c_7 : ¬ (10 ≤ p) := fun z => c0 ((nI_leI (a := 10) (b := p) (by omega) (by omega)).mpr z)
      refine lv_iload_n hx hb d_FO_word_10 rfl (lv_at hl 2 rfl) ?_
      refine lv_if_lt (tgt := 24) hx hb d_FO_word_11 (by decide) (fun c0 => ?_) (fun c0 => ?_)
      · have c_11 := c0
        refine lv_iconst (v := nI (0)) hx hb d_FO_word_24 (by decide) ?_
        exact W.iret hx hb hr (fun t ht hW => ⟨_, rfl, by first | (rw [fm_wd_neg c_11]; done) | (rw [fm_wd_out hk31 c_21]; done), ht⟩) (fun q hq => by cases hq) d_FO_word_25
      · have c_11 := c0
        obtain ⟨k, hk31, rfl⟩ := nI_of c_11
        refine lv_iload_n hx hb d_FO_word_14 rfl (lv_at hl 2 rfl) ?_
        refine lv_aload_n hx hb d_FO_word_15 rfl (lv_at hl 0 rfl) ?_
        refine va_get (D := (dC, dI)) (ci := 1) (v := .ref la) (C := R_FO) (T := F_FO) (N := 8) hx hb ht i_FO hown hK hP 0 rfl rfl 2 (by decide) (ht _ q_1_71) (fun _ h9 => h9) rfl d_FO_word_16 ?_
        refine lv_iload_n hx hb d_FO_word_19 rfl (lv_at hl 1 rfl) ?_
        refine va_iald hx hb hK hP 3 0 rfl rfl (vp_in_nI (by omega) (by omega)) d_FO_word_20 ?_
        refine fm_tw (z := ln (p)) (by rw [nI_clamp (by omega)]) ?_
        refine fm_tw (z := nI (fm_WD B p)) (hFl p hp) ?_
        refine lv_icmp_lt (tgt := 26) hx hb d_FO_word_21 (by decide) (fun c0 => ?_) (fun c0 => ?_)
        · have c_21 : k < fm_WD B p := (nI_ltI (a := k) (b := fm_WD B p) (by omega) (by omega)).mp c0
          have hpin := fm_pin hL hp c_21
          have hpin2 := fm_in (B := B) c_21 hp
          refine lv_aload_n hx hb d_FO_word_26 rfl (lv_at hl 0 rfl) ?_
          refine va_get (D := (dC, dI)) (ci := 1) (v := .ref sa) (C := R_FO) (T := F_FO) (N := 8) hx hb ht i_FO hown hK hP 0 rfl rfl 1 (by decide) (ht _ q_1_70) (fun _ h9 => h9) rfl d_FO_word_27 ?_
          refine lv_iload_n hx hb d_FO_word_30 rfl (lv_at hl 1 rfl) ?_
          refine va_iald hx hb hK hP 2 0 rfl rfl (vp_in_nI (by omega) (by omega)) d_FO_word_31 ?_
          refine fm_tw (z := st (p)) (by rw [nI_clamp (by omega)]) ?_
          refine fm_tw (z := nI (fm_ST B p)) (hFs p hp) ?_
          refine lv_iload_n hx hb d_FO_word_32 rfl (lv_at hl 2 rfl) ?_
          refine lv_iadd hx hb d_FO_word_33 ?_
          refine fm_tw (z := nI (fm_ST B p + k)) (nI_add _ _) ?_
          refine lv_istore_n (lv' := [(3, .int (nI (fm_ST B p + k))), (0, .ref o), (1, .int (nI (p))), (2, .int (nI (k)))]) hx hb d_FO_word_34 rfl hl (by decide) rfl (fun ls hl => ?_)
          refine lv_iload_n hx hb d_FO_word_35 rfl (lv_at hl 0 rfl) ?_
          refine lv_if_lt (tgt := 57) hx hb d_FO_word_36 (by decide) (fun c0 => ?_) (fun c0 => ?_)
          · have c_36 : fm_ST B p + k < 0 := (nI_ltI (a := fm_ST B p + k) (b := 0) (by omega) (by omega)).mp c0
            exact absurd c_36 (by omega)
          · have c_36 : ¬ (fm_ST B p + k < 0) := fun z => c0 ((nI_ltI (a := fm_ST B p + k) (b := 0) (by omega) (by omega)).mpr z)
            refine lv_iload_n hx hb d_FO_word_39 rfl (lv_at hl 0 rfl) ?_
            refine lv_aload_n hx hb d_FO_word_40 rfl (lv_at hl 1 rfl) ?_
            refine va_get (D := (dC, dI)) (ci := 1) (v := .ref wa) (C := R_FO) (T := F_FO) (N := 8) hx hb ht i_FO hown hK hP 0 rfl rfl 0 (by decide) (ht _ q_1_69) (fun _ h9 => h9) rfl d_FO_word_41 ?_
            refine va_alen hx hb hK hP 1 0 rfl rfl (v := nI (2048)) rfl d_FO_word_44 ?_
            refine lv_icmp_ge (tgt := 57) hx hb d_FO_word_45 (by decide) (fun c0 => ?_) (fun c0 => ?_)
            · have c_45 : 2048 ≤ fm_ST B p + k := (nI_leI (a := 2048) (b := fm_ST B p + k) (by omega) (by omega)).mp c0
              exact absurd c_45 (by omega)
            · have c_45 : ¬ (2048 ≤ fm_ST B p + k) := fun z => c0 ((nI_leI (a := 2048) (b := fm_ST B p + k) (by omega) (by omega)).mpr z)
              refine lv_aload_n hx hb d_FO_word_48 rfl (lv_at hl 1 rfl) ?_
              refine va_get (D := (dC, dI)) (ci := 1) (v := .ref wa) (C := R_FO) (T := F_FO) (N := 8) hx hb ht i_FO hown hK hP 0 rfl rfl 0 (by decide) (ht _ q_1_69) (fun _ h9 => h9) rfl d_FO_word_49 ?_
              refine lv_iload_n hx hb d_FO_word_52 rfl (lv_at hl 0 rfl) ?_
              refine va_iald hx hb hK hP 1 0 rfl rfl (vp_in_nI (by omega) (by omega)) d_FO_word_53 ?_
              refine fm_tw (z := w (fm_ST B p + k)) (by rw [nI_clamp (by omega)]) ?_
              refine lv_goto (tgt := 58) hx hb d_FO_word_54 (by decide) ?_
              exact W.iret hx hb hr (fun t ht hW => ⟨_, rfl, by rw [fm_wd_in hk31 c_21, hFw _ hpin2]; rfl, ht⟩) (fun q hq => by cases hq) d_FO_word_58
        · have c_21 : ¬ (k < fm_WD B p) := fun z => c0 ((nI_ltI (a := k) (b := fm_WD B p) (by omega) (by omega)).mpr z)
          refine lv_iconst (v := nI (0)) hx hb d_FO_word_24 (by decide) ?_
          exact W.iret hx hb hr (fun t ht hW => ⟨_, rfl, by first | (rw [fm_wd_neg c_11]; done) | (rw [fm_wd_out hk31 c_21]; done), ht⟩) (fun q hq => by cases hq) d_FO_word_25
theorem c_FO_wordN (l : Launch) (dC : Nat → ClassId) (dI : Nat → Nat → Nat) (o : Nat) (wa : Nat) (sa : Nat) (la : Nat) (sz : Int32) (sc : Int32) (hv : Int32) (cI : ClassId) (B : Nat → Nat) (w : Nat → Int32) (st : Nat → Int32) (ln : Nat → Int32) (p : Nat) (k : Nat) (hF : fm_FO B w st ln) (hp : p < 10) (hk : k < fm_WD B p) : fm_M l (dC, dI) y_FO_word w_FO_word ({ frames := 0, cells := 0, slots := 0, locals := 0 }) [.ref o, .int (nI (p)), .int (nI (k))] [(o, .inr (1, [.ref wa, .ref sa, .ref la, .int (nI (fm_HF B 2)), .int (nI (fm_HF B 3)), .int (sz), .int (sc), .int (hv)])), (wa, .inl (cI, 2048, .inl (w))), (sa, .inl (cI, 10, .inl (st))), (la, .inl (cI, 10, .inl (ln)))] [(cI, .int)] ((fm_W B p k)) := by
  have hwd := fm_WD_le hF.1.1 p
  rw [← fm_wd_in (by omega) hk]
  exact c_FO_word l dC dI o wa sa la sz sc hv cI B w st ln p (nI k) hF hp
theorem d_FO_designSize_0 : decode b_FO_designSize 0 = .ok (.aload_n 0, 1) := by decide +kernel
theorem d_FO_designSize_1 : decode b_FO_designSize 1 = .ok (.iconst 0, 1) := by decide +kernel
theorem d_FO_designSize_2 : decode b_FO_designSize 2 = .ok (.iconst 1, 1) := by decide +kernel
theorem d_FO_designSize_3 : decode b_FO_designSize 3 = .ok (.invokevirtual 60, 3) := by decide +kernel
theorem d_FO_designSize_6 : decode b_FO_designSize 6 = .ok (.iconst 4, 1) := by decide +kernel
theorem d_FO_designSize_7 : decode b_FO_designSize 7 = .ok (.ishr, 1) := by decide +kernel
theorem d_FO_designSize_8 : decode b_FO_designSize 8 = .ok (.ireturn, 1) := by decide +kernel
set_option maxHeartbeats 4000000 in
set_option maxRecDepth 100000 in
theorem c_FO_designSize (l : Launch) (dC : Nat → ClassId) (dI : Nat → Nat → Nat) (o : Nat) (wa : Nat) (sa : Nat) (la : Nat) (sz : Int32) (sc : Int32) (hv : Int32) (cI : ClassId) (B : Nat → Nat) (w : Nat → Int32) (st : Nat → Int32) (ln : Nat → Int32) (hF : fm_FO B w st ln) (hd : 1 < fm_WD B 0) : fm_M l (dC, dI) y_FO_designSize w_FO_designSize ({ frames := 1, cells := 0, slots := 0, locals := 23 }) [.ref o] [(o, .inr (1, [.ref wa, .ref sa, .ref la, .int (nI (fm_HF B 2)), .int (nI (fm_HF B 3)), .int (sz), .int (sc), .int (hv)])), (wa, .inl (cI, 2048, .inl (w))), (sa, .inl (cI, 10, .inl (st))), (la, .inl (cI, 10, .inl (ln)))] [(cI, .int)] ((nI (fm_WO B 7) >>> (nI 4 &&& 31))) := by
  refine Met.ofW (cc := b_FO_designSize) (maxL := 1) (ret := (some .int)) (by decide) rfl ?_
  intro pg ev s m args below meth cd s₁ BD hml hv
  obtain ⟨rfl, hP, hK⟩ := hv
  have hx := BD.exec
  have hb := BD.bytes
  have hr := BD.returns
  have hts := atoms_spec (ws := w_FO_designSize) BD.pre
  have ht : ∀ w ∈ fm_T, w.before _ s = true := fun w h => hts w (List.mem_cons_of_mem _ h)
  have hown : s.vm.findClass R_FO = some m.cls := findClass_of_methodNamed BD.named
  have hlocks := BD.notSynchronized
  have S : CallFix pg m cd b_FO_designSize 1 s _ w_FO_designSize R_FO := ⟨hx, hb, hml, hown, hts⟩
  have hl := lv_entry ([.ref o]) (n := 1) (Nat.le_of_ble_eq_true rfl)
  rw [lg_entry_eq]
  generalize (lg_sl ([.ref o]) ++ List.replicate (1 - (lg_sl ([.ref o])).length) Slot.unset).toArray = ls at hl ⊢
  have hl : lv_has ls 1 [(0, .ref o)] := hl
  have hB : ∀ i, B i < 256 := hF.1.1
  obtain ⟨hL, hFw, hFs, hFl⟩ := id hF
  obtain ⟨-, hq, h3, h10⟩ := id hL
  refine lv_aload_n hx hb d_FO_designSize_0 rfl (lv_at hl 0 rfl) ?_
  refine lv_iconst (v := nI (0)) hx hb d_FO_designSize_1 (by decide) ?_
  refine lv_iconst (v := nI (1)) hx hb d_FO_designSize_2 (by decide) ?_
  refine fm_cv S (c_FO_wordN l dC dI o wa sa la sz sc hv cI B w st ln 0 1 (hF) (by omega) (by omega)) rfl rfl k_FO_word q_1_153 ⟨Nat.le_of_ble_eq_true rfl, Nat.le_of_ble_eq_true rfl⟩ (hP.sub [0, 1, 2, 3] rfl) (hK.sub [0] rfl) 0 rfl rfl rfl hl.1 rfl (Nat.le_of_ble_eq_true rfl) ⟨Nat.zero_le _, Nat.zero_le _⟩ d_FO_designSize_3 ?_
  refine lv_iconst (v := nI (4)) hx hb d_FO_designSize_6 (by decide) ?_
  refine lv_ishr hx hb d_FO_designSize_7 ?_
  exact W.iret hx hb hr (fun t ht hW => ⟨_, rfl, rfl, ht⟩) (fun q hq => by cases hq) d_FO_designSize_8
