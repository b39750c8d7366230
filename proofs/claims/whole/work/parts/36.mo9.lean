theorem d_MO_set_0 : decode b_MO_set 0 = .ok (.aload_n 0, 1) := by decide +kernel
theorem d_MO_set_1 : decode b_MO_set 1 = .ok (.aload_n 0, 1) := by decide +kernel
theorem d_MO_set_2 : decode b_MO_set 2 = .ok (.getfield 103, 3) := by decide +kernel
theorem d_MO_set_5 : decode b_MO_set 5 = .ok (.ifCond .eq 7, 3) := by decide +kernel
theorem d_MO_set_8 : decode b_MO_set 8 = .ok (.iconst 0, 1) := by decide +kernel
theorem d_MO_set_9 : decode b_MO_set 9 = .ok (.goto 4, 3) := by decide +kernel
theorem d_MO_set_12 : decode b_MO_set 12 = .ok (.iconst 1, 1) := by decide +kernel
theorem d_MO_set_13 : decode b_MO_set 13 = .ok (.putfield 26, 3) := by decide +kernel
theorem d_MO_set_16 : decode b_MO_set 16 = .ok (.aload_n 0, 1) := by decide +kernel
theorem d_MO_set_17 : decode b_MO_set 17 = .ok (.getfield 26, 3) := by decide +kernel
theorem d_MO_set_20 : decode b_MO_set 20 = .ok (.ifCond .le 5, 3) := by decide +kernel
theorem d_MO_set_23 : decode b_MO_set 23 = .ok (.iconst 0, 1) := by decide +kernel
theorem d_MO_set_24 : decode b_MO_set 24 = .ok (.ireturn, 1) := by decide +kernel
theorem d_MO_set_25 : decode b_MO_set 25 = .ok (.aload_n 0, 1) := by decide +kernel
theorem d_MO_set_26 : decode b_MO_set 26 = .ok (.iconst 0, 1) := by decide +kernel
theorem d_MO_set_27 : decode b_MO_set 27 = .ok (.putfield 110, 3) := by decide +kernel
theorem d_MO_set_30 : decode b_MO_set 30 = .ok (.iconst 0, 1) := by decide +kernel
theorem d_MO_set_31 : decode b_MO_set 31 = .ok (.istore_n 1, 1) := by decide +kernel
theorem d_MO_set_32 : decode b_MO_set 32 = .ok (.iload_n 1, 1) := by decide +kernel
theorem d_MO_set_33 : decode b_MO_set 33 = .ok (.aload_n 0, 1) := by decide +kernel
theorem d_MO_set_34 : decode b_MO_set 34 = .ok (.getfield 138, 3) := by decide +kernel
theorem d_MO_set_37 : decode b_MO_set 37 = .ok (.if_icmp .ge 31, 3) := by decide +kernel
theorem d_MO_set_40 : decode b_MO_set 40 = .ok (.aload_n 0, 1) := by decide +kernel
theorem d_MO_set_41 : decode b_MO_set 41 = .ok (.getfield 13, 3) := by decide +kernel
theorem d_MO_set_44 : decode b_MO_set 44 = .ok (.aload_n 0, 1) := by decide +kernel
theorem d_MO_set_45 : decode b_MO_set 45 = .ok (.getfield 16, 3) := by decide +kernel
theorem d_MO_set_48 : decode b_MO_set 48 = .ok (.iload_n 1, 1) := by decide +kernel
theorem d_MO_set_49 : decode b_MO_set 49 = .ok (.baload, 1) := by decide +kernel
theorem d_MO_set_50 : decode b_MO_set 50 = .ok (.sipush 255, 3) := by decide +kernel
theorem d_MO_set_53 : decode b_MO_set 53 = .ok (.iand, 1) := by decide +kernel
theorem d_MO_set_54 : decode b_MO_set 54 = .ok (.invokestatic 53, 3) := by decide +kernel
theorem d_MO_set_57 : decode b_MO_set 57 = .ok (.ifCond .ne 5, 3) := by decide +kernel
theorem d_MO_set_60 : decode b_MO_set 60 = .ok (.iconst (-1), 1) := by decide +kernel
theorem d_MO_set_61 : decode b_MO_set 61 = .ok (.ireturn, 1) := by decide +kernel
theorem d_MO_set_62 : decode b_MO_set 62 = .ok (.iinc 1 1, 3) := by decide +kernel
theorem d_MO_set_65 : decode b_MO_set 65 = .ok (.goto (-33), 3) := by decide +kernel
theorem d_MO_set_68 : decode b_MO_set 68 = .ok (.aload_n 0, 1) := by decide +kernel
theorem d_MO_set_69 : decode b_MO_set 69 = .ok (.getfield 13, 3) := by decide +kernel
theorem d_MO_set_72 : decode b_MO_set 72 = .ok (.invokestatic 121, 3) := by decide +kernel
theorem d_MO_set_75 : decode b_MO_set 75 = .ok (.ifCond .lt 12, 3) := by decide +kernel
theorem d_MO_set_78 : decode b_MO_set 78 = .ok (.aload_n 0, 1) := by decide +kernel
theorem d_MO_set_79 : decode b_MO_set 79 = .ok (.iconst 0, 1) := by decide +kernel
theorem d_MO_set_80 : decode b_MO_set 80 = .ok (.sipush 256, 3) := by decide +kernel
theorem d_MO_set_83 : decode b_MO_set 83 = .ok (.iconst 0, 1) := by decide +kernel
theorem d_MO_set_84 : decode b_MO_set 84 = .ok (.invokevirtual 141, 3) := by decide +kernel
theorem d_MO_set_87 : decode b_MO_set 87 = .ok (.iconst 0, 1) := by decide +kernel
theorem d_MO_set_88 : decode b_MO_set 88 = .ok (.istore_n 1, 1) := by decide +kernel
theorem d_MO_set_89 : decode b_MO_set 89 = .ok (.iload_n 1, 1) := by decide +kernel
theorem d_MO_set_90 : decode b_MO_set 90 = .ok (.aload_n 0, 1) := by decide +kernel
theorem d_MO_set_91 : decode b_MO_set 91 = .ok (.getfield 138, 3) := by decide +kernel
theorem d_MO_set_94 : decode b_MO_set 94 = .ok (.if_icmp .ge 28, 3) := by decide +kernel
theorem d_MO_set_97 : decode b_MO_set 97 = .ok (.aload_n 0, 1) := by decide +kernel
theorem d_MO_set_98 : decode b_MO_set 98 = .ok (.aload_n 0, 1) := by decide +kernel
theorem d_MO_set_99 : decode b_MO_set 99 = .ok (.getfield 110, 3) := by decide +kernel
theorem d_MO_set_102 : decode b_MO_set 102 = .ok (.aload_n 0, 1) := by decide +kernel
theorem d_MO_set_103 : decode b_MO_set 103 = .ok (.getfield 16, 3) := by decide +kernel
theorem d_MO_set_106 : decode b_MO_set 106 = .ok (.iload_n 1, 1) := by decide +kernel
theorem d_MO_set_107 : decode b_MO_set 107 = .ok (.baload, 1) := by decide +kernel
theorem d_MO_set_108 : decode b_MO_set 108 = .ok (.sipush 255, 3) := by decide +kernel
theorem d_MO_set_111 : decode b_MO_set 111 = .ok (.iand, 1) := by decide +kernel
theorem d_MO_set_112 : decode b_MO_set 112 = .ok (.iconst 0, 1) := by decide +kernel
theorem d_MO_set_113 : decode b_MO_set 113 = .ok (.invokevirtual 141, 3) := by decide +kernel
theorem d_MO_set_116 : decode b_MO_set 116 = .ok (.iinc 1 1, 3) := by decide +kernel
theorem d_MO_set_119 : decode b_MO_set 119 = .ok (.goto (-30), 3) := by decide +kernel
theorem d_MO_set_122 : decode b_MO_set 122 = .ok (.aload_n 0, 1) := by decide +kernel
theorem d_MO_set_123 : decode b_MO_set 123 = .ok (.getfield 13, 3) := by decide +kernel
theorem d_MO_set_126 : decode b_MO_set 126 = .ok (.invokestatic 67, 3) := by decide +kernel
theorem d_MO_set_129 : decode b_MO_set 129 = .ok (.ifCond .lt 15, 3) := by decide +kernel
theorem d_MO_set_132 : decode b_MO_set 132 = .ok (.aload_n 0, 1) := by decide +kernel
theorem d_MO_set_133 : decode b_MO_set 133 = .ok (.aload_n 0, 1) := by decide +kernel
theorem d_MO_set_134 : decode b_MO_set 134 = .ok (.getfield 110, 3) := by decide +kernel
theorem d_MO_set_137 : decode b_MO_set 137 = .ok (.sipush 256, 3) := by decide +kernel
theorem d_MO_set_140 : decode b_MO_set 140 = .ok (.iconst 0, 1) := by decide +kernel
theorem d_MO_set_141 : decode b_MO_set 141 = .ok (.invokevirtual 141, 3) := by decide +kernel
theorem d_MO_set_144 : decode b_MO_set 144 = .ok (.aload_n 0, 1) := by decide +kernel
theorem d_MO_set_145 : decode b_MO_set 145 = .ok (.iconst 0, 1) := by decide +kernel
theorem d_MO_set_146 : decode b_MO_set 146 = .ok (.putfield 138, 3) := by decide +kernel
theorem d_MO_set_149 : decode b_MO_set 149 = .ok (.iconst 0, 1) := by decide +kernel
theorem d_MO_set_150 : decode b_MO_set 150 = .ok (.istore_n 1, 1) := by decide +kernel
theorem d_MO_set_151 : decode b_MO_set 151 = .ok (.iconst 0, 1) := by decide +kernel
theorem d_MO_set_152 : decode b_MO_set 152 = .ok (.istore_n 2, 1) := by decide +kernel
theorem d_MO_set_153 : decode b_MO_set 153 = .ok (.iload_n 1, 1) := by decide +kernel
theorem d_MO_set_154 : decode b_MO_set 154 = .ok (.iconst 1, 1) := by decide +kernel
theorem d_MO_set_155 : decode b_MO_set 155 = .ok (.iadd, 1) := by decide +kernel
theorem d_MO_set_156 : decode b_MO_set 156 = .ok (.aload_n 0, 1) := by decide +kernel
theorem d_MO_set_157 : decode b_MO_set 157 = .ok (.getfield 110, 3) := by decide +kernel
theorem d_MO_set_160 : decode b_MO_set 160 = .ok (.if_icmp .ge 30, 3) := by decide +kernel
theorem d_MO_set_163 : decode b_MO_set 163 = .ok (.iload_n 2, 1) := by decide +kernel
theorem d_MO_set_164 : decode b_MO_set 164 = .ok (.sipush 1000, 3) := by decide +kernel
theorem d_MO_set_167 : decode b_MO_set 167 = .ok (.if_icmp .ne 11, 3) := by decide +kernel
theorem d_MO_set_170 : decode b_MO_set 170 = .ok (.aload_n 0, 1) := by decide +kernel
theorem d_MO_set_171 : decode b_MO_set 171 = .ok (.iconst 0, 1) := by decide +kernel
theorem d_MO_set_172 : decode b_MO_set 172 = .ok (.putfield 110, 3) := by decide +kernel
theorem d_MO_set_175 : decode b_MO_set 175 = .ok (.bipush (-2), 2) := by decide +kernel
theorem d_MO_set_177 : decode b_MO_set 177 = .ok (.ireturn, 1) := by decide +kernel
theorem d_MO_set_178 : decode b_MO_set 178 = .ok (.iinc 2 1, 3) := by decide +kernel
theorem d_MO_set_181 : decode b_MO_set 181 = .ok (.aload_n 0, 1) := by decide +kernel
theorem d_MO_set_182 : decode b_MO_set 182 = .ok (.iload_n 1, 1) := by decide +kernel
theorem d_MO_set_183 : decode b_MO_set 183 = .ok (.invokevirtual 149, 3) := by decide +kernel
theorem d_MO_set_186 : decode b_MO_set 186 = .ok (.istore_n 1, 1) := by decide +kernel
theorem d_MO_set_187 : decode b_MO_set 187 = .ok (.goto (-34), 3) := by decide +kernel
theorem d_MO_set_190 : decode b_MO_set 190 = .ok (.aload_n 0, 1) := by decide +kernel
theorem d_MO_set_191 : decode b_MO_set 191 = .ok (.getfield 110, 3) := by decide +kernel
theorem d_MO_set_194 : decode b_MO_set 194 = .ok (.iconst 1, 1) := by decide +kernel
theorem d_MO_set_195 : decode b_MO_set 195 = .ok (.isub, 1) := by decide +kernel
theorem d_MO_set_196 : decode b_MO_set 196 = .ok (.istore_n 3, 1) := by decide +kernel
theorem d_MO_set_197 : decode b_MO_set 197 = .ok (.iload_n 3, 1) := by decide +kernel
theorem d_MO_set_198 : decode b_MO_set 198 = .ok (.ifCond .lt 26, 3) := by decide +kernel
theorem d_MO_set_201 : decode b_MO_set 201 = .ok (.aload_n 0, 1) := by decide +kernel
theorem d_MO_set_202 : decode b_MO_set 202 = .ok (.getfield 19, 3) := by decide +kernel
theorem d_MO_set_205 : decode b_MO_set 205 = .ok (.iload_n 3, 1) := by decide +kernel
theorem d_MO_set_206 : decode b_MO_set 206 = .ok (.iaload, 1) := by decide +kernel
theorem d_MO_set_207 : decode b_MO_set 207 = .ok (.sipush 256, 3) := by decide +kernel
theorem d_MO_set_210 : decode b_MO_set 210 = .ok (.if_icmp .ne 8, 3) := by decide +kernel
theorem d_MO_set_213 : decode b_MO_set 213 = .ok (.aload_n 0, 1) := by decide +kernel
theorem d_MO_set_214 : decode b_MO_set 214 = .ok (.iload_n 3, 1) := by decide +kernel
theorem d_MO_set_215 : decode b_MO_set 215 = .ok (.invokevirtual 145, 3) := by decide +kernel
theorem d_MO_set_218 : decode b_MO_set 218 = .ok (.iinc 3 (-1), 3) := by decide +kernel
theorem d_MO_set_221 : decode b_MO_set 221 = .ok (.goto (-24), 3) := by decide +kernel
theorem d_MO_set_224 : decode b_MO_set 224 = .ok (.aload_n 0, 1) := by decide +kernel
theorem d_MO_set_225 : decode b_MO_set 225 = .ok (.getfield 110, 3) := by decide +kernel
theorem d_MO_set_228 : decode b_MO_set 228 = .ok (.ireturn, 1) := by decide +kernel
set_option maxHeartbeats 4000000 in
set_option maxRecDepth 100000 in
theorem c_MO_setU (l : Launch) (dC : Nat → ClassId) (dI : Nat → Nat → Nat) (h : Nat) (th : Int32) (fa : Nat) (n0 : Int32) (ga : Nat) (sz : Int32) (ra : Nat) (rz : Int32) (ka : Nat) (wa : Nat) (ct : Int32)  : fm_MW l (dC, dI) y_MO_set w_MO_set ({ frames := 0, cells := 0, slots := 0, locals := 0 }) [.ref h] [(h, .inr (4, [.int (th), .ref fa, .int (n0), .ref ga, .int (nI (0)), .int (sz), .ref ra, .int (rz), .ref ka, .ref wa, .int (ct)]))] [(h, .inr (4, [.int (nI (1)), .ref fa, .int (n0), .ref ga, .int (nI (0)), .int (sz), .ref ra, .int (rz), .ref ka, .ref wa, .int (ct)]))] [] (some (.int (nI (0)))) := by
  refine Met.ofW (cc := b_MO_set) (maxL := 4) (ret := (some .int)) (by decide) rfl ?_
  intro pg ev s m args below meth cd s₁ BD hml hv
  obtain ⟨rfl, hP, hK, hD0⟩ := hv
  have hx := BD.exec
  have hb := BD.bytes
  have hr := BD.returns
  have hts := atoms_spec (ws := w_MO_set) BD.pre
  have ht : ∀ w ∈ fm_T, w.before _ s = true := fun w h => hts w (List.mem_cons_of_mem _ h)
  have hown : s.vm.findClass R_MO = some m.cls := findClass_of_methodNamed BD.named
  have hlocks := BD.notSynchronized
  have S : CallFix pg m cd b_MO_set 4 s _ w_MO_set R_MO := ⟨hx, hb, hml, hown, hts⟩
  have hD := fm_selfD hD0
  generalize fm_A [(h, .inr (4, [.int (th), .ref fa, .int (n0), .ref ga, .int (nI (0)), .int (sz), .ref ra, .int (rz), .ref ka, .ref wa, .int (ct)]))] = A at hD ⊢
  have hS : va_S A s.heap s.heap [] := va_S.rf
  have hl := lv_entry ([.ref h]) (n := 4) (Nat.le_of_ble_eq_true rfl)
  rw [lg_entry_eq]
  generalize (lg_sl ([.ref h]) ++ List.replicate (4 - (lg_sl ([.ref h])).length) Slot.unset).toArray = ls at hl ⊢
  have hl : lv_has ls 4 [(0, .ref h)] := hl
  refine lv_aload_n hx hb d_MO_set_0 rfl (lv_at hl 0 rfl) ?_
  refine lv_aload_n hx hb d_MO_set_1 rfl (lv_at hl 0 rfl) ?_
  refine va_get (D := (dC, dI)) (ci := 4) (v := .int (nI (0))) (C := R_MO) (T := F_MO) (N := 11) hx hb ht i_MO hown hK hP 0 rfl rfl 4 (by decide) (ht _ q_3_117) (fun _ h9 => h9) rfl d_MO_set_2 ?_
  refine lv_if_eq (tgt := 12) hx hb d_MO_set_5 (by decide) (fun c0 => ?_) (fun c0 => ?_)
  · have c_5 : 0 = 0 := (nI_eq (a := 0) (b := 0) (by omega) (by omega)).mp c0
    refine lv_iconst (v := nI (1)) hx hb d_MO_set_12 (by decide) ?_
    refine va_put (D := (dC, dI)) (ci := 4) (v := .int (nI (1))) (ty := .int) (C := R_MO) (T := F_MO) (N := 11) hx hb ht i_MO t_MO t_MO_ok n_MO hown hK hP hD hS 0 rfl rfl 0 (by decide) (ht _ q_3_113) (fun _ h9 => h9) rfl (by decide +kernel) (rfl) (rfl) (Nat.le_of_ble_eq_true rfl) d_MO_set_13 (fun H locs hP hD hS => ?_)
    have hP : va_P (dC, dI) classes [(h, .inr (4, [.int (nI (1)), .ref fa, .int (n0), .ref ga, .int (nI (0)), .int (sz), .ref ra, .int (rz), .ref ka, .ref wa, .int (ct)]))] _ := hP
    have hD : va_D A [(h, .inr (4, [.int (nI (1)), .ref fa, .int (n0), .ref ga, .int (nI (0)), .int (sz), .ref ra, .int (rz), .ref ka, .ref wa, .int (ct)]))] := hD
    refine lv_aload_n hx hb d_MO_set_16 rfl (lv_at hl 0 rfl) ?_
    refine va_get (D := (dC, dI)) (ci := 4) (v := .int (nI (1))) (C := R_MO) (T := F_MO) (N := 11) hx hb ht i_MO hown hK hP 0 rfl rfl 0 (by decide) (ht _ q_3_113) (fun _ h9 => h9) rfl d_MO_set_17 ?_
    refine lv_if_le (tgt := 25) hx hb d_MO_set_20 (by decide) (fun c0 => ?_) (fun c0 => ?_)
    · have c_20 : 1 ≤ 0 := (nI_leI (a := 1) (b := 0) (by omega) (by omega)).mp c0
      exact absurd c_20 (by decide)
    · have c_20 : ¬ (1 ≤ 0) := fun z => c0 ((nI_leI (a := 1) (b := 0) (by omega) (by omega)).mpr z)
      refine lv_iconst (v := nI (0)) hx hb d_MO_set_23 (by decide) ?_
      exact W.iret hx hb hr (fun t ht hW => ⟨congrArg (fun z => Outcome.returned (some (Value.int z))) (rfl), by rw [ht]; exact hP, hS.F ht⟩) hS.2.2 d_MO_set_24
  · have c_5 : ¬ (0 = 0) := fun z => c0 ((nI_eq (a := 0) (b := 0) (by omega) (by omega)).mpr z)
    exact absurd c_5 (by decide)
set_option maxHeartbeats 4000000 in
set_option maxRecDepth 100000 in
theorem c_MO_setN (l : Launch) (dC : Nat → ClassId) (dI : Nat → Nat → Nat) (h : Nat) (th : Int32) (fa : Nat) (n0 : Int32) (ga : Nat) (ra : Nat) (ka : Nat) (wa : Nat) (ct : Int32) (s0 : Nat) (rn : Nat) (cB : ClassId) (cI : ClassId) (g : Nat → Int32) (rw : Nat → Int32) (kd : Nat → Int32) (wd : Nat → Int32) (hV : fm_V (fm_RB g)) (hs : s0 < 134217728) (hrn : rn ≤ 64) (hno : fm_all rn (fun i => fm_th (fm_RB g) (fm_RB rw i)) = false) : fm_MW l (dC, dI) y_MO_set w_MO_set ({ frames := 5, cells := 0, slots := 0, locals := 109 }) [.ref h] [(h, .inr (4, [.int (th), .ref fa, .int (n0), .ref ga, .int (nI (1)), .int (nI (s0)), .ref ra, .int (nI (rn)), .ref ka, .ref wa, .int (ct)])), (ga, .inl (cB, 8192, .inl (g))), (ra, .inl (cB, 64, .inl (rw))), (ka, .inl (cI, 1100, .inl (kd))), (wa, .inl (cI, 1100, .inl (wd)))] [(h, .inr (4, [.int (nI (0)), .ref fa, .int (n0), .ref ga, .int (nI (1)), .int (nI (s0)), .ref ra, .int (nI (rn)), .ref ka, .ref wa, .int (nI (0))])), (ga, .inl (cB, 8192, .inl (g))), (ra, .inl (cB, 64, .inl (rw))), (ka, .inl (cI, 1100, .inl (kd))), (wa, .inl (cI, 1100, .inl (wd)))] [(cB, .byte), (cI, .int)] (some (.int ((-1)))) := by
  refine Met.ofW (cc := b_MO_set) (maxL := 4) (ret := (some .int)) (by decide) rfl ?_
  intro pg ev s m args below meth cd s₁ BD hml hv
  obtain ⟨rfl, hP, hK, hD0⟩ := hv
  have hx := BD.exec
  have hb := BD.bytes
  have hr := BD.returns
  have hts := atoms_spec (ws := w_MO_set) BD.pre
  have ht : ∀ w ∈ fm_T, w.before _ s = true := fun w h => hts w (List.mem_cons_of_mem _ h)
  have hown : s.vm.findClass R_MO = some m.cls := findClass_of_methodNamed BD.named
  have hlocks := BD.notSynchronized
  have S : CallFix pg m cd b_MO_set 4 s _ w_MO_set R_MO := ⟨hx, hb, hml, hown, hts⟩
  have hD := fm_selfD hD0
  generalize fm_A [(h, .inr (4, [.int (th), .ref fa, .int (n0), .ref ga, .int (nI (1)), .int (nI (s0)), .ref ra, .int (nI (rn)), .ref ka, .ref wa, .int (ct)])), (ga, .inl (cB, 8192, .inl (g))), (ra, .inl (cB, 64, .inl (rw))), (ka, .inl (cI, 1100, .inl (kd))), (wa, .inl (cI, 1100, .inl (wd)))] = A at hD ⊢
  have hS : va_S A s.heap s.heap [] := va_S.rf
  have hl := lv_entry ([.ref h]) (n := 4) (Nat.le_of_ble_eq_true rfl)
  rw [lg_entry_eq]
  generalize (lg_sl ([.ref h]) ++ List.replicate (4 - (lg_sl ([.ref h])).length) Slot.unset).toArray = ls at hl ⊢
  have hl : lv_has ls 4 [(0, .ref h)] := hl
  have hL := hV.1
  obtain ⟨-, hq, h3, h10⟩ := id hL
  refine lv_aload_n hx hb d_MO_set_0 rfl (lv_at hl 0 rfl) ?_
  refine lv_aload_n hx hb d_MO_set_1 rfl (lv_at hl 0 rfl) ?_
  refine va_get (D := (dC, dI)) (ci := 4) (v := .int (nI (1))) (C := R_MO) (T := F_MO) (N := 11) hx hb ht i_MO hown hK hP 0 rfl rfl 4 (by decide) (ht _ q_3_117) (fun _ h9 => h9) rfl d_MO_set_2 ?_
  refine lv_if_eq (tgt := 12) hx hb d_MO_set_5 (by decide) (fun c0 => ?_) (fun c0 => ?_)
  · have c_5 : 1 = 0 := (nI_eq (a := 1) (b := 0) (by omega) (by omega)).mp c0
    exact absurd c_5 (by decide)
  · have c_5 : ¬ (1 = 0) := fun z => c0 ((nI_eq (a := 1) (b := 0) (by omega) (by omega)).mpr z)
    refine lv_iconst (v := nI (0)) hx hb d_MO_set_8 (by decide) ?_
    refine lv_goto (tgt := 13) hx hb d_MO_set_9 (by decide) ?_
    refine va_put (D := (dC, dI)) (ci := 4) (v := .int (nI (0))) (ty := .int) (C := R_MO) (T := F_MO) (N := 11) hx hb ht i_MO t_MO t_MO_ok n_MO hown hK hP hD hS 0 rfl rfl 0 (by decide) (ht _ q_3_113) (fun _ h9 => h9) rfl (by decide +kernel) (rfl) (rfl) (Nat.le_of_ble_eq_true rfl) d_MO_set_13 (fun H locs hP hD hS => ?_)
    have hP : va_P (dC, dI) classes [(h, .inr (4, [.int (nI (0)), .ref fa, .int (n0), .ref ga, .int (nI (1)), .int (nI (s0)), .ref ra, .int (nI (rn)), .ref ka, .ref wa, .int (ct)])), (ga, .inl (cB, 8192, .inl (g))), (ra, .inl (cB, 64, .inl (rw))), (ka, .inl (cI, 1100, .inl (kd))), (wa, .inl (cI, 1100, .inl (wd)))] _ := hP
    have hD : va_D A [(h, .inr (4, [.int (nI (0)), .ref fa, .int (n0), .ref ga, .int (nI (1)), .int (nI (s0)), .ref ra, .int (nI (rn)), .ref ka, .ref wa, .int (ct)])), (ga, .inl (cB, 8192, .inl (g))), (ra, .inl (cB, 64, .inl (rw))), (ka, .inl (cI, 1100, .inl (kd))), (wa, .inl (cI, 1100, .inl (wd)))] := hD
    refine lv_aload_n hx hb d_MO_set_16 rfl (lv_at hl 0 rfl) ?_
    refine va_get (D := (dC, dI)) (ci := 4) (v := .int (nI (0))) (C := R_MO) (T := F_MO) (N := 11) hx hb ht i_MO hown hK hP 0 rfl rfl 0 (by decide) (ht _ q_3_113) (fun _ h9 => h9) rfl d_MO_set_17 ?_
    refine lv_if_le (tgt := 25) hx hb d_MO_set_20 (by decide) (fun c0 => ?_) (fun c0 => ?_)
    · have c_20 : 0 ≤ 0 := (nI_leI (a := 0) (b := 0) (by omega) (by omega)).mp c0
      refine lv_aload_n hx hb d_MO_set_25 rfl (lv_at hl 0 rfl) ?_
      refine lv_iconst (v := nI (0)) hx hb d_MO_set_26 (by decide) ?_
      refine va_put (D := (dC, dI)) (ci := 4) (v := .int (nI (0))) (ty := .int) (C := R_MO) (T := F_MO) (N := 11) hx hb ht i_MO t_MO t_MO_ok n_MO hown hK hP hD hS 0 rfl rfl 10 (by decide) (ht _ q_3_123) (fun _ h9 => h9) rfl (by decide +kernel) (rfl) (rfl) (Nat.le_of_ble_eq_true rfl) d_MO_set_27 (fun H locs hP hD hS => ?_)
      have hP : va_P (dC, dI) classes [(h, .inr (4, [.int (nI (0)), .ref fa, .int (n0), .ref ga, .int (nI (1)), .int (nI (s0)), .ref ra, .int (nI (rn)), .ref ka, .ref wa, .int (nI (0))])), (ga, .inl (cB, 8192, .inl (g))), (ra, .inl (cB, 64, .inl (rw))), (ka, .inl (cI, 1100, .inl (kd))), (wa, .inl (cI, 1100, .inl (wd)))] _ := hP
      have hD : va_D A [(h, .inr (4, [.int (nI (0)), .ref fa, .int (n0), .ref ga, .int (nI (1)), .int (nI (s0)), .ref ra, .int (nI (rn)), .ref ka, .ref wa, .int (nI (0))])), (ga, .inl (cB, 8192, .inl (g))), (ra, .inl (cB, 64, .inl (rw))), (ka, .inl (cI, 1100, .inl (kd))), (wa, .inl (cI, 1100, .inl (wd)))] := hD
      refine lv_iconst (v := nI (0)) hx hb d_MO_set_30 (by decide) ?_
      refine lv_istore_n (lv' := [(1, .int (nI (0))), (0, .ref h)]) hx hb d_MO_set_31 rfl hl (by decide) rfl (fun ls hl => ?_)
      refine fm_loop1 (LV := fun (i : Nat) => [(0, .ref h), (1, .int (nI (i)))]) (I := fun (i : Nat) => i ≤ rn ∧ fm_all i (fun i => fm_th (fm_RB g) (fm_RB rw i)) = true) (μ := fun (i : Nat) => rn - i) ?_ 0 (⟨Nat.zero_le _, rfl⟩) ls (lv_sub hl [1, 0] rfl)
      intro i hI_32 ih_32 ls hl
      have hl : lv_has ls 4 [(0, .ref h), (1, .int (nI (i)))] := hl
      obtain ⟨hi, hal⟩ := hI_32
      refine lv_iload_n hx hb d_MO_set_32 rfl (lv_at hl 1 rfl) ?_
      refine lv_aload_n hx hb d_MO_set_33 rfl (lv_at hl 0 rfl) ?_
      refine va_get (D := (dC, dI)) (ci := 4) (v := .int (nI (rn))) (C := R_MO) (T := F_MO) (N := 11) hx hb ht i_MO hown hK hP 0 rfl rfl 7 (by decide) (ht _ q_3_120) (fun _ h9 => h9) rfl d_MO_set_34 ?_
      refine lv_icmp_ge (tgt := 68) hx hb d_MO_set_37 (by decide) (fun c0 => ?_) (fun c0 => ?_)
      · have c_37 : rn ≤ i := (nI_leI (a := rn) (b := i) (by omega) (by omega)).mp c0
        rw [show rn = i by omega, hal] at hno
        cases hno
        
      · have c_37 : ¬ (rn ≤ i) := fun z => c0 ((nI_leI (a := rn) (b := i) (by omega) (by omega)).mpr z)
        refine lv_aload_n hx hb d_MO_set_40 rfl (lv_at hl 0 rfl) ?_
        refine va_get (D := (dC, dI)) (ci := 4) (v := .ref ga) (C := R_MO) (T := F_MO) (N := 11) hx hb ht i_MO hown hK hP 0 rfl rfl 3 (by decide) (ht _ q_3_116) (fun _ h9 => h9) rfl d_MO_set_41 ?_
        refine lv_aload_n hx hb d_MO_set_44 rfl (lv_at hl 0 rfl) ?_
        refine va_get (D := (dC, dI)) (ci := 4) (v := .ref ra) (C := R_MO) (T := F_MO) (N := 11) hx hb ht i_MO hown hK hP 0 rfl rfl 6 (by decide) (ht _ q_3_119) (fun _ h9 => h9) rfl d_MO_set_45 ?_
        refine lv_iload_n hx hb d_MO_set_48 rfl (lv_at hl 1 rfl) ?_
        refine va_bald hx hb hK hP 2 0 rfl rfl (vp_in_nI (by omega) (by omega)) d_MO_set_49 ?_
        refine fm_tw (z := rw (i)) (by rw [nI_clamp (by omega)]) ?_
        refine lv_sipush (v := nI (255)) hx hb d_MO_set_50 (by decide) ?_
        refine lv_iand hx hb d_MO_set_53 ?_
        refine fm_tw (z := nI (fm_RB rw (i))) (fm_RB_and _ _) ?_
        have hrb := fm_RB_lt rw i
        refine fm_cs S (c_MO_isThereN l dC dI ga cB g (fm_RB rw (i)) (by omega) (hL)) rfl rfl k_MO_isThere q_3_194 ⟨Nat.le_of_ble_eq_true rfl, Nat.le_of_ble_eq_true rfl⟩ (hP.sub [1] rfl) (hK.sub [0] rfl) rfl hl.1 rfl (Nat.le_of_ble_eq_true rfl) ⟨Nat.zero_le _, Nat.zero_le _⟩ d_MO_set_54 ?_
        refine lv_if_ne (tgt := 62) hx hb d_MO_set_57 (by decide) (fun c0 => ?_) (fun c0 => ?_)
        · have c_57 : (fm_th (fm_RB g) (fm_RB rw (i))) = true := fm_bI_t c0
          refine lv_iinc (v := nI (i + 1)) (lv' := [(1, .int (nI (i + 1))), (0, .ref h)]) hx hb d_MO_set_62 hl (k := 1) rfl (nI_1 _) (by decide) rfl (fun ls hl => ?_)
          refine lv_goto (tgt := 32) hx hb d_MO_set_65 (by decide) ?_
          exact ih_32 (i + 1) ls (⟨by omega, by rw [fm_all, hal, Bool.true_and]; exact c_57⟩) (by omega) (lv_sub hl [1, 0] rfl)
        · have c_57 : (fm_th (fm_RB g) (fm_RB rw (i))) = false := fm_bI_f c0
          refine lv_iconst (v := ((-1))) hx hb d_MO_set_60 (by decide) ?_
          exact W.iret hx hb hr (fun t ht hW => ⟨congrArg (fun z => Outcome.returned (some (Value.int z))) (rfl), by rw [ht]; exact hP, hS.F ht⟩) hS.2.2 d_MO_set_61
    · have c_20 : ¬ (0 ≤ 0) := fun z => c0 ((nI_leI (a := 0) (b := 0) (by omega) (by omega)).mpr z)
      exact absurd c_20 (by decide)
set_option maxHeartbeats 4000000 in
set_option maxRecDepth 100000 in
theorem c_MO_setY (l : Launch) (dC : Nat → ClassId) (dI : Nat → Nat → Nat) (h : Nat) (th : Int32) (fa : Nat) (n0 : Int32) (ga : Nat) (ra : Nat) (ka : Nat) (wa : Nat) (ct : Int32) (s0 : Nat) (rn : Nat) (cB : ClassId) (cI : ClassId) (g : Nat → Int32) (rw : Nat → Int32) (kd : Nat → Int32) (wd : Nat → Int32) (hV : fm_V (fm_RB g)) (hs : s0 < 134217728) (hrn : rn ≤ 64) (hyes : fm_all rn (fun i => fm_th (fm_RB g) (fm_RB rw i)) = true) : fm_MX (S := (Nat → Int32) × (Nat → Int32)) l (dC, dI) y_MO_set w_MO_set ({ frames := 8, cells := 0, slots := 0, locals := 179 }) [.ref h] [(h, .inr (4, [.int (th), .ref fa, .int (n0), .ref ga, .int (nI (1)), .int (nI (s0)), .ref ra, .int (nI (rn)), .ref ka, .ref wa, .int (ct)])), (ga, .inl (cB, 8192, .inl (g))), (ra, .inl (cB, 64, .inl (rw))), (ka, .inl (cI, 1100, .inl (kd))), (wa, .inl (cI, 1100, .inl (wd)))] [(cB, .byte), (cI, .int)] (fun u => ∀ L, (fm_set (fm_RB g) s0 (fm_T0 (fm_RB g) (fm_RB rw) rn)) = some L → fm_RL u.1 u.2 L) (fun u => (some (.int (fm_sR (fm_set (fm_RB g) s0 (fm_T0 (fm_RB g) (fm_RB rw) rn)))))) (fun u => [(h, .inr (4, [.int (nI (0)), .ref fa, .int (n0), .ref ga, .int (nI (1)), .int (nI (s0)), .ref ra, .int (nI (0)), .ref ka, .ref wa, .int (nI (fm_sN (fm_set (fm_RB g) s0 (fm_T0 (fm_RB g) (fm_RB rw) rn))))])), (ga, .inl (cB, 8192, .inl (g))), (ra, .inl (cB, 64, .inl (rw))), (ka, .inl (cI, 1100, .inl (u.1))), (wa, .inl (cI, 1100, .inl (u.2)))]) := by
  refine Met.ofW (cc := b_MO_set) (maxL := 4) (ret := (some .int)) (by decide) rfl ?_
  intro pg ev s m args below meth cd s₁ BD hml hv
  obtain ⟨rfl, hP, hK, hD0⟩ := hv
  have hx := BD.exec
  have hb := BD.bytes
  have hr := BD.returns
  have hts := atoms_spec (ws := w_MO_set) BD.pre
  have ht : ∀ w ∈ fm_T, w.before _ s = true := fun w h => hts w (List.mem_cons_of_mem _ h)
  have hown : s.vm.findClass R_MO = some m.cls := findClass_of_methodNamed BD.named
  have hlocks := BD.notSynchronized
  have S : CallFix pg m cd b_MO_set 4 s _ w_MO_set R_MO := ⟨hx, hb, hml, hown, hts⟩
  have hD := fm_selfD hD0
  generalize fm_A [(h, .inr (4, [.int (th), .ref fa, .int (n0), .ref ga, .int (nI (1)), .int (nI (s0)), .ref ra, .int (nI (rn)), .ref ka, .ref wa, .int (ct)])), (ga, .inl (cB, 8192, .inl (g))), (ra, .inl (cB, 64, .inl (rw))), (ka, .inl (cI, 1100, .inl (kd))), (wa, .inl (cI, 1100, .inl (wd)))] = A at hD ⊢
  have hS : va_S A s.heap s.heap [] := va_S.rf
  have hl := lv_entry ([.ref h]) (n := 4) (Nat.le_of_ble_eq_true rfl)
  rw [lg_entry_eq]
  generalize (lg_sl ([.ref h]) ++ List.replicate (4 - (lg_sl ([.ref h])).length) Slot.unset).toArray = ls at hl ⊢
  have hl : lv_has ls 4 [(0, .ref h)] := hl
  have hL := hV.1
  obtain ⟨-, hq, h3, h10⟩ := id hL
  refine lv_aload_n hx hb d_MO_set_0 rfl (lv_at hl 0 rfl) ?_
  refine lv_aload_n hx hb d_MO_set_1 rfl (lv_at hl 0 rfl) ?_
  refine va_get (D := (dC, dI)) (ci := 4) (v := .int (nI (1))) (C := R_MO) (T := F_MO) (N := 11) hx hb ht i_MO hown hK hP 0 rfl rfl 4 (by decide) (ht _ q_3_117) (fun _ h9 => h9) rfl d_MO_set_2 ?_
  refine lv_if_eq (tgt := 12) hx hb d_MO_set_5 (by decide) (fun c0 => ?_) (fun c0 => ?_)
  · have c_5 : 1 = 0 := (nI_eq (a := 1) (b := 0) (by omega) (by omega)).mp c0
    exact absurd c_5 (by decide)
  · have c_5 : ¬ (1 = 0) := fun z => c0 ((nI_eq (a := 1) (b := 0) (by omega) (by omega)).mpr z)
    refine lv_iconst (v := nI (0)) hx hb d_MO_set_8 (by decide) ?_
    refine lv_goto (tgt := 13) hx hb d_MO_set_9 (by decide) ?_
    refine va_put (D := (dC, dI)) (ci := 4) (v := .int (nI (0))) (ty := .int) (C := R_MO) (T := F_MO) (N := 11) hx hb ht i_MO t_MO t_MO_ok n_MO hown hK hP hD hS 0 rfl rfl 0 (by decide) (ht _ q_3_113) (fun _ h9 => h9) rfl (by decide +kernel) (rfl) (rfl) (Nat.le_of_ble_eq_true rfl) d_MO_set_13 (fun H locs hP hD hS => ?_)
    have hP : va_P (dC, dI) classes [(h, .inr (4, [.int (nI (0)), .ref fa, .int (n0), .ref ga, .int (nI (1)), .int (nI (s0)), .ref ra, .int (nI (rn)), .ref ka, .ref wa, .int (ct)])), (ga, .inl (cB, 8192, .inl (g))), (ra, .inl (cB, 64, .inl (rw))), (ka, .inl (cI, 1100, .inl (kd))), (wa, .inl (cI, 1100, .inl (wd)))] _ := hP
    have hD : va_D A [(h, .inr (4, [.int (nI (0)), .ref fa, .int (n0), .ref ga, .int (nI (1)), .int (nI (s0)), .ref ra, .int (nI (rn)), .ref ka, .ref wa, .int (ct)])), (ga, .inl (cB, 8192, .inl (g))), (ra, .inl (cB, 64, .inl (rw))), (ka, .inl (cI, 1100, .inl (kd))), (wa, .inl (cI, 1100, .inl (wd)))] := hD
    refine lv_aload_n hx hb d_MO_set_16 rfl (lv_at hl 0 rfl) ?_
    refine va_get (D := (dC, dI)) (ci := 4) (v := .int (nI (0))) (C := R_MO) (T := F_MO) (N := 11) hx hb ht i_MO hown hK hP 0 rfl rfl 0 (by decide) (ht _ q_3_113) (fun _ h9 => h9) rfl d_MO_set_17 ?_
    refine lv_if_le (tgt := 25) hx hb d_MO_set_20 (by decide) (fun c0 => ?_) (fun c0 => ?_)
    · have c_20 : 0 ≤ 0 := (nI_leI (a := 0) (b := 0) (by omega) (by omega)).mp c0
      refine lv_aload_n hx hb d_MO_set_25 rfl (lv_at hl 0 rfl) ?_
      refine lv_iconst (v := nI (0)) hx hb d_MO_set_26 (by decide) ?_
      refine va_put (D := (dC, dI)) (ci := 4) (v := .int (nI (0))) (ty := .int) (C := R_MO) (T := F_MO) (N := 11) hx hb ht i_MO t_MO t_MO_ok n_MO hown hK hP hD hS 0 rfl rfl 10 (by decide) (ht _ q_3_123) (fun _ h9 => h9) rfl (by decide +kernel) (rfl) (rfl) (Nat.le_of_ble_eq_true rfl) d_MO_set_27 (fun H locs hP hD hS => ?_)
      have hP : va_P (dC, dI) classes [(h, .inr (4, [.int (nI (0)), .ref fa, .int (n0), .ref ga, .int (nI (1)), .int (nI (s0)), .ref ra, .int (nI (rn)), .ref ka, .ref wa, .int (nI (0))])), (ga, .inl (cB, 8192, .inl (g))), (ra, .inl (cB, 64, .inl (rw))), (ka, .inl (cI, 1100, .inl (kd))), (wa, .inl (cI, 1100, .inl (wd)))] _ := hP
      have hD : va_D A [(h, .inr (4, [.int (nI (0)), .ref fa, .int (n0), .ref ga, .int (nI (1)), .int (nI (s0)), .ref ra, .int (nI (rn)), .ref ka, .ref wa, .int (nI (0))])), (ga, .inl (cB, 8192, .inl (g))), (ra, .inl (cB, 64, .inl (rw))), (ka, .inl (cI, 1100, .inl (kd))), (wa, .inl (cI, 1100, .inl (wd)))] := hD
      refine lv_iconst (v := nI (0)) hx hb d_MO_set_30 (by decide) ?_
      refine lv_istore_n (lv' := [(1, .int (nI (0))), (0, .ref h)]) hx hb d_MO_set_31 rfl hl (by decide) rfl (fun ls hl => ?_)
      refine fm_loop1 (LV := fun (i : Nat) => [(0, .ref h), (1, .int (nI (i)))]) (I := fun (i : Nat) => i ≤ rn ∧ fm_all i (fun i => fm_th (fm_RB g) (fm_RB rw i)) = true) (μ := fun (i : Nat) => rn - i) ?_ 0 (⟨Nat.zero_le _, rfl⟩) ls (lv_sub hl [1, 0] rfl)
      intro i hI_32 ih_32 ls hl
      have hl : lv_has ls 4 [(0, .ref h), (1, .int (nI (i)))] := hl
      obtain ⟨hi, hal⟩ := hI_32
      refine lv_iload_n hx hb d_MO_set_32 rfl (lv_at hl 1 rfl) ?_
      refine lv_aload_n hx hb d_MO_set_33 rfl (lv_at hl 0 rfl) ?_
      refine va_get (D := (dC, dI)) (ci := 4) (v := .int (nI (rn))) (C := R_MO) (T := F_MO) (N := 11) hx hb ht i_MO hown hK hP 0 rfl rfl 7 (by decide) (ht _ q_3_120) (fun _ h9 => h9) rfl d_MO_set_34 ?_
      refine lv_icmp_ge (tgt := 68) hx hb d_MO_set_37 (by decide) (fun c0 => ?_) (fun c0 => ?_)
      · have c_37 : rn ≤ i := (nI_leI (a := rn) (b := i) (by omega) (by omega)).mp c0
        refine lv_aload_n hx hb d_MO_set_68 rfl (lv_at hl 0 rfl) ?_
        refine va_get (D := (dC, dI)) (ci := 4) (v := .ref ga) (C := R_MO) (T := F_MO) (N := 11) hx hb ht i_MO hown hK hP 0 rfl rfl 3 (by decide) (ht _ q_3_116) (fun _ h9 => h9) rfl d_MO_set_69 ?_
        refine fm_cs S (c_MO_edgeProgram l dC dI ga cB g (hL)) rfl rfl k_MO_edgeProgram q_3_231 ⟨Nat.le_of_ble_eq_true rfl, Nat.le_of_ble_eq_true rfl⟩ (hP.sub [1] rfl) (hK.sub [0] rfl) rfl hl.1 rfl (Nat.le_of_ble_eq_true rfl) ⟨Nat.zero_le _, Nat.zero_le _⟩ d_MO_set_72 ?_
        refine lv_if_lt (tgt := 87) hx hb d_MO_set_75 (by decide) (fun c0 => ?_) (fun c0 => ?_)
        · have c_75 := c0
          have hE : (fm_E1 (fm_RB g)) = [] := by unfold fm_E1; rw [if_pos c_75]
          refine lv_iconst (v := nI (0)) hx hb d_MO_set_87 (by decide) ?_
          refine lv_istore_n (lv' := [(1, .int (nI (0))), (0, .ref h)]) hx hb d_MO_set_88 rfl hl (by decide) rfl (fun ls hl => ?_)
          refine fm_wloop3 (nL := 4) (LV := fun (i : Nat) (kd2 : Nat → Int32) (wd2 : Nat → Int32) => [(0, .ref h), (1, .int (nI (i)))]) (WS := fun (i : Nat) (kd2 : Nat → Int32) (wd2 : Nat → Int32) => [(h, .inr (4, [.int (nI (0)), .ref fa, .int (n0), .ref ga, .int (nI (1)), .int (nI (s0)), .ref ra, .int (nI (rn)), .ref ka, .ref wa, .int (nI ((fm_E1 (fm_RB g)).length + i))])), (ga, .inl (cB, 8192, .inl (g))), (ra, .inl (cB, 64, .inl (rw))), (ka, .inl (cI, 1100, .inl (kd2))), (wa, .inl (cI, 1100, .inl (wd2)))]) (I := fun (i : Nat) (kd2 : Nat → Int32) (wd2 : Nat → Int32) => i ≤ rn ∧ fm_RL kd2 wd2 (fm_c0 ((fm_E1 (fm_RB g)) ++ fm_row (fm_RB rw) i))) (μ := fun (i : Nat) (kd2 : Nat → Int32) (wd2 : Nat → Int32) => rn - i) ?_ 0 kd wd (⟨Nat.zero_le _, by rw [hE]; exact fm_RL_nil kd wd⟩) (by rw [hE]; exact hP) (by rw [hE]; exact hD) hS ls (lv_sub hl [1, 0] rfl)
          intro i kd2 wd2 hI_89 ih_89 H locs ls hP hD hS hl
          have hl : lv_has ls 4 [(0, .ref h), (1, .int (nI (i)))] := hl
          have hP : va_P (dC, dI) classes [(h, .inr (4, [.int (nI (0)), .ref fa, .int (n0), .ref ga, .int (nI (1)), .int (nI (s0)), .ref ra, .int (nI (rn)), .ref ka, .ref wa, .int (nI ((fm_E1 (fm_RB g)).length + i))])), (ga, .inl (cB, 8192, .inl (g))), (ra, .inl (cB, 64, .inl (rw))), (ka, .inl (cI, 1100, .inl (kd2))), (wa, .inl (cI, 1100, .inl (wd2)))] _ := hP
          have hD : va_D A [(h, .inr (4, [.int (nI (0)), .ref fa, .int (n0), .ref ga, .int (nI (1)), .int (nI (s0)), .ref ra, .int (nI (rn)), .ref ka, .ref wa, .int (nI ((fm_E1 (fm_RB g)).length + i))])), (ga, .inl (cB, 8192, .inl (g))), (ra, .inl (cB, 64, .inl (rw))), (ka, .inl (cI, 1100, .inl (kd2))), (wa, .inl (cI, 1100, .inl (wd2)))] := hD
          obtain ⟨hi, hRL⟩ := hI_89
          have hE1 := fm_E1_len (fm_RB g)
          have hlen : (fm_c0 ((fm_E1 (fm_RB g)) ++ fm_row (fm_RB rw) i)).length = (fm_E1 (fm_RB g)).length + i := by rw [fm_c0_len, List.length_append, fm_row_len]
          refine lv_iload_n hx hb d_MO_set_89 rfl (lv_at hl 1 rfl) ?_
          refine lv_aload_n hx hb d_MO_set_90 rfl (lv_at hl 0 rfl) ?_
          refine va_get (D := (dC, dI)) (ci := 4) (v := .int (nI (rn))) (C := R_MO) (T := F_MO) (N := 11) hx hb ht i_MO hown hK hP 0 rfl rfl 7 (by decide) (ht _ q_3_120) (fun _ h9 => h9) rfl d_MO_set_91 ?_
          refine lv_icmp_ge (tgt := 122) hx hb d_MO_set_94 (by decide) (fun c0 => ?_) (fun c0 => ?_)
          · have c_94 : rn ≤ i := (nI_leI (a := rn) (b := i) (by omega) (by omega)).mp c0
            have hin : i = rn := by omega
            rw [hin] at hRL hP hD hlen
            have hl := lv_sub hl [0] rfl
            refine lv_aload_n hx hb d_MO_set_122 rfl (lv_at hl 0 rfl) ?_
            refine va_get (D := (dC, dI)) (ci := 4) (v := .ref ga) (C := R_MO) (T := F_MO) (N := 11) hx hb ht i_MO hown hK hP 0 rfl rfl 3 (by decide) (ht _ q_3_116) (fun _ h9 => h9) rfl d_MO_set_123 ?_
            refine fm_cs S (c_MO_edgeOf l dC dI ga cB g (hL)) rfl rfl k_MO_edgeOf q_3_221 ⟨Nat.le_of_ble_eq_true rfl, Nat.le_of_ble_eq_true rfl⟩ (hP.sub [1] rfl) (hK.sub [0] rfl) rfl hl.1 rfl (Nat.le_of_ble_eq_true rfl) ⟨Nat.zero_le _, Nat.zero_le _⟩ d_MO_set_126 ?_
            refine lv_if_lt (tgt := 144) hx hb d_MO_set_129 (by decide) (fun c0 => ?_) (fun c0 => ?_)
            · have c_129 := c0
              have hE2 : (fm_E2 (fm_RB g)) = [] := by unfold fm_E2; rw [if_pos c_129]
              refine lv_aload_n hx hb d_MO_set_144 rfl (lv_at hl 0 rfl) ?_
              refine lv_iconst (v := nI (0)) hx hb d_MO_set_145 (by decide) ?_
              refine va_put (D := (dC, dI)) (ci := 4) (v := .int (nI (0))) (ty := .int) (C := R_MO) (T := F_MO) (N := 11) hx hb ht i_MO t_MO t_MO_ok n_MO hown hK hP hD hS 0 rfl rfl 7 (by decide) (ht _ q_3_120) (fun _ h9 => h9) rfl (by decide +kernel) (rfl) (rfl) (Nat.le_of_ble_eq_true rfl) d_MO_set_146 (fun H locs hP hD hS => ?_)
              have hP : va_P (dC, dI) classes [(h, .inr (4, [.int (nI (0)), .ref fa, .int (n0), .ref ga, .int (nI (1)), .int (nI (s0)), .ref ra, .int (nI (0)), .ref ka, .ref wa, .int (nI ((fm_E1 (fm_RB g)).length + rn))])), (ga, .inl (cB, 8192, .inl (g))), (ra, .inl (cB, 64, .inl (rw))), (ka, .inl (cI, 1100, .inl (kd2))), (wa, .inl (cI, 1100, .inl (wd2)))] _ := hP
              have hD : va_D A [(h, .inr (4, [.int (nI (0)), .ref fa, .int (n0), .ref ga, .int (nI (1)), .int (nI (s0)), .ref ra, .int (nI (0)), .ref ka, .ref wa, .int (nI ((fm_E1 (fm_RB g)).length + rn))])), (ga, .inl (cB, 8192, .inl (g))), (ra, .inl (cB, 64, .inl (rw))), (ka, .inl (cI, 1100, .inl (kd2))), (wa, .inl (cI, 1100, .inl (wd2)))] := hD
              refine lv_iconst (v := nI (0)) hx hb d_MO_set_149 (by decide) ?_
              refine lv_istore_n (lv' := [(1, .int (nI (0))), (0, .ref h)]) hx hb d_MO_set_150 rfl hl (by decide) rfl (fun ls hl => ?_)
              refine lv_iconst (v := nI (0)) hx hb d_MO_set_151 (by decide) ?_
              refine lv_istore_n (lv' := [(2, .int (nI (0))), (1, .int (nI (0))), (0, .ref h)]) hx hb d_MO_set_152 rfl hl (by decide) rfl (fun ls hl => ?_)
              have hT : fm_T0 (fm_RB g) (fm_RB rw) rn = ((fm_E1 (fm_RB g)) ++ fm_row (fm_RB rw) rn) ++ (fm_E2 (fm_RB g)) := rfl
              rw [hE2] at hT
              have h7 := hRL
              have hct : (fm_E1 (fm_RB g)).length + rn = ([] : List (Nat × Int32)).length + (fm_T0 (fm_RB g) (fm_RB rw) rn).length := by rw [hT, List.length_append, List.length_append, fm_row_len]; simp
              have hT0 := fm_T0_ok (B := fm_RB g) (r := fm_RB rw) (n := rn) hyes
              rw [hct] at hP hD
              refine fm_wloop5 (nL := 4) (LV := fun (a : Nat) (D : List (Nat × Int32)) (T : List Nat) (kd2 : Nat → Int32) (wd2 : Nat → Int32) => [(0, .ref h), (1, .int (nI (D.length))), (2, .int (nI (a)))]) (WS := fun (a : Nat) (D : List (Nat × Int32)) (T : List Nat) (kd2 : Nat → Int32) (wd2 : Nat → Int32) => [(h, .inr (4, [.int (nI (0)), .ref fa, .int (n0), .ref ga, .int (nI (1)), .int (nI (s0)), .ref ra, .int (nI (0)), .ref ka, .ref wa, .int (nI (D.length + T.length))])), (ga, .inl (cB, 8192, .inl (g))), (ra, .inl (cB, 64, .inl (rw))), (ka, .inl (cI, 1100, .inl (kd2))), (wa, .inl (cI, 1100, .inl (wd2)))]) (I := fun (a : Nat) (D : List (Nat × Int32)) (T : List Nat) (kd2 : Nat → Int32) (wd2 : Nat → Int32) => a ≤ 1000 ∧ fm_RL kd2 wd2 (D ++ fm_c0 T) ∧ fm_ok (fm_RB g) T ∧ fm_okI (fm_RB g) D ∧ D.length + T.length ≤ 66 + a ∧ fm_run (fm_RB g) s0 (1000 - a) D T = fm_run (fm_RB g) s0 1000 [] (fm_T0 (fm_RB g) (fm_RB rw) rn)) (μ := fun (a : Nat) (D : List (Nat × Int32)) (T : List Nat) (kd2 : Nat → Int32) (wd2 : Nat → Int32) => 1000 - a) ?_ 0 ([]) ((fm_T0 (fm_RB g) (fm_RB rw) rn)) kd2 wd2 (⟨by decide, by rw [hT, fm_c0_app]; rw [show fm_c0 [] = [] from rfl, List.append_nil]; exact h7, hT0, (fun q hq => by cases hq), by omega, rfl⟩) hP hD hS ls (lv_sub hl [2, 1, 0] rfl)
              intro a D T kd2 wd2 hI_153 ih_153 H locs ls hP hD hS hl
              have hl : lv_has ls 4 [(0, .ref h), (1, .int (nI (D.length))), (2, .int (nI (a)))] := hl
              have hP : va_P (dC, dI) classes [(h, .inr (4, [.int (nI (0)), .ref fa, .int (n0), .ref ga, .int (nI (1)), .int (nI (s0)), .ref ra, .int (nI (0)), .ref ka, .ref wa, .int (nI (D.length + T.length))])), (ga, .inl (cB, 8192, .inl (g))), (ra, .inl (cB, 64, .inl (rw))), (ka, .inl (cI, 1100, .inl (kd2))), (wa, .inl (cI, 1100, .inl (wd2)))] _ := hP
              have hD : va_D A [(h, .inr (4, [.int (nI (0)), .ref fa, .int (n0), .ref ga, .int (nI (1)), .int (nI (s0)), .ref ra, .int (nI (0)), .ref ka, .ref wa, .int (nI (D.length + T.length))])), (ga, .inl (cB, 8192, .inl (g))), (ra, .inl (cB, 64, .inl (rw))), (ka, .inl (cI, 1100, .inl (kd2))), (wa, .inl (cI, 1100, .inl (wd2)))] := hD
              obtain ⟨ha, hRL, hok, hokI, hsz, hrun⟩ := hI_153
              refine lv_iload_n hx hb d_MO_set_153 rfl (lv_at hl 1 rfl) ?_
              refine lv_iconst (v := nI (1)) hx hb d_MO_set_154 (by decide) ?_
              refine lv_iadd hx hb d_MO_set_155 ?_
              refine fm_tw (z := nI (D.length + 1)) (nI_add _ _) ?_
              refine lv_aload_n hx hb d_MO_set_156 rfl (lv_at hl 0 rfl) ?_
              refine va_get (D := (dC, dI)) (ci := 4) (v := .int (nI (D.length + T.length))) (C := R_MO) (T := F_MO) (N := 11) hx hb ht i_MO hown hK hP 0 rfl rfl 10 (by decide) (ht _ q_3_123) (fun _ h9 => h9) rfl d_MO_set_157 ?_
              refine lv_icmp_ge (tgt := 190) hx hb d_MO_set_160 (by decide) (fun c0 => ?_) (fun c0 => ?_)
              · have c_160 : D.length + T.length ≤ D.length + 1 := (nI_leI (a := D.length + T.length) (b := D.length + 1) (by omega) (by omega)).mp c0
                have hT1 : T.length ≤ 1 := by omega
                rw [fm_run_end hT1] at hrun
                have hset : (fm_set (fm_RB g) s0 (fm_T0 (fm_RB g) (fm_RB rw) rn)) = some (fm_its (D ++ fm_c0 T)) := by unfold fm_set; rw [← hrun]; rfl
                have hok8 := fm_okI_258 hL (fm_okI_app hokI (fm_c0_okI hok))
                generalize hLL : D ++ fm_c0 T = LL at hRL hset hok8
                have hLLn : D.length + T.length = LL.length + (fm_its []).length := by rw [← hLL, List.length_append, fm_c0_len]; rfl
                have hLL8 : LL.length ≤ 1066 := by have := hLLn; simp [fm_its] at this; omega
                refine lv_aload_n hx hb d_MO_set_190 rfl (lv_at hl 0 rfl) ?_
                refine va_get (D := (dC, dI)) (ci := 4) (v := .int (nI (D.length + T.length))) (C := R_MO) (T := F_MO) (N := 11) hx hb ht i_MO hown hK hP 0 rfl rfl 10 (by decide) (ht _ q_3_123) (fun _ h9 => h9) rfl d_MO_set_191 ?_
                refine lv_iconst (v := nI (1)) hx hb d_MO_set_194 (by decide) ?_
                refine lv_isub hx hb d_MO_set_195 ?_
                refine fm_tw (z := (nI LL.length - nI 1)) (by rw [show D.length + T.length = LL.length by have := hLLn; simp [fm_its] at this; exact this]) ?_
                refine lv_istore_n (lv' := [(3, .int (nI LL.length - nI 1)), (0, .ref h), (1, .int (nI (D.length))), (2, .int (nI (a)))]) hx hb d_MO_set_196 rfl hl (by decide) rfl (fun ls hl => ?_)
                refine fm_wloop4 (nL := 4) (LV := fun (P : List (Nat × Int32)) (Q : List (Nat × Int32)) (kd2 : Nat → Int32) (wd2 : Nat → Int32) => [(0, .ref h), (3, .int (nI P.length - nI 1))]) (WS := fun (P : List (Nat × Int32)) (Q : List (Nat × Int32)) (kd2 : Nat → Int32) (wd2 : Nat → Int32) => [(h, .inr (4, [.int (nI (0)), .ref fa, .int (n0), .ref ga, .int (nI (1)), .int (nI (s0)), .ref ra, .int (nI (0)), .ref ka, .ref wa, .int (nI (P.length + (fm_its Q).length))])), (ga, .inl (cB, 8192, .inl (g))), (ra, .inl (cB, 64, .inl (rw))), (ka, .inl (cI, 1100, .inl (kd2))), (wa, .inl (cI, 1100, .inl (wd2)))]) (I := fun (P : List (Nat × Int32)) (Q : List (Nat × Int32)) (kd2 : Nat → Int32) (wd2 : Nat → Int32) => P ++ Q = LL ∧ fm_RL kd2 wd2 (P ++ fm_its Q)) (μ := fun (P : List (Nat × Int32)) (Q : List (Nat × Int32)) (kd2 : Nat → Int32) (wd2 : Nat → Int32) => P.length) ?_ LL ([]) kd2 wd2 (⟨List.append_nil _, by show fm_RL kd2 wd2 (LL ++ []); rw [List.append_nil]; exact hRL⟩) (by rw [hLLn] at hP; exact hP) (by rw [hLLn] at hD; exact hD) hS ls (lv_sub hl [1, 0] rfl)
                intro P Q kd2 wd2 hI_197 ih_197 H locs ls hP hD hS hl
                have hl : lv_has ls 4 [(0, .ref h), (3, .int (nI P.length - nI 1))] := hl
                have hP : va_P (dC, dI) classes [(h, .inr (4, [.int (nI (0)), .ref fa, .int (n0), .ref ga, .int (nI (1)), .int (nI (s0)), .ref ra, .int (nI (0)), .ref ka, .ref wa, .int (nI (P.length + (fm_its Q).length))])), (ga, .inl (cB, 8192, .inl (g))), (ra, .inl (cB, 64, .inl (rw))), (ka, .inl (cI, 1100, .inl (kd2))), (wa, .inl (cI, 1100, .inl (wd2)))] _ := hP
                have hD : va_D A [(h, .inr (4, [.int (nI (0)), .ref fa, .int (n0), .ref ga, .int (nI (1)), .int (nI (s0)), .ref ra, .int (nI (0)), .ref ka, .ref wa, .int (nI (P.length + (fm_its Q).length))])), (ga, .inl (cB, 8192, .inl (g))), (ra, .inl (cB, 64, .inl (rw))), (ka, .inl (cI, 1100, .inl (kd2))), (wa, .inl (cI, 1100, .inl (wd2)))] := hD
                obtain ⟨hPQ, hRL⟩ := hI_197
                refine lv_iload_n hx hb d_MO_set_197 rfl (lv_at hl 1 rfl) ?_
                refine lv_if_lt (tgt := 224) hx hb d_MO_set_198 (by decide) (fun c0 => ?_) (fun c0 => ?_)
                · have c_198 := c0
                  have hP0 : P = [] := by
                    rcases Nat.eq_zero_or_pos P.length with h | h
                    · exact List.length_eq_zero_iff.mp h
                    · exact absurd (show nI (P.length - 1) < 0 by rw [← nI_pred (P.length - 1), show P.length - 1 + 1 = P.length by omega]; exact c_198) (nI_pos (by have h9 := congrArg List.length hPQ; rw [List.length_append] at h9; omega))
                  subst hP0
                  have hQ : Q = LL := hPQ
                  rw [hQ] at hRL hP hD
                  refine lv_aload_n hx hb d_MO_set_224 rfl (lv_at hl 0 rfl) ?_
                  refine va_get (D := (dC, dI)) (ci := 4) (v := .int (nI ((([] : List (Nat × Int32))).length + (fm_its LL).length))) (C := R_MO) (T := F_MO) (N := 11) hx hb ht i_MO hown hK hP 0 rfl rfl 10 (by decide) (ht _ q_3_123) (fun _ h9 => h9) rfl d_MO_set_225 ?_
                  exact W.iret hx hb hr (fun t ht hW => ⟨(kd2, wd2), (fun L hL9 => by rw [hset] at hL9; cases hL9; exact hRL), congrArg (fun z => Outcome.returned (some (Value.int z))) (by rw [hset]; show nI (0 + (fm_its LL).length) = nI (fm_its LL).length; rw [Nat.zero_add]), by rw [ht]; exact show va_P (dC, dI) classes [(h, .inr (4, [.int (nI (0)), .ref fa, .int (n0), .ref ga, .int (nI (1)), .int (nI (s0)), .ref ra, .int (nI (0)), .ref ka, .ref wa, .int (nI (fm_sN (fm_set (fm_RB g) s0 (fm_T0 (fm_RB g) (fm_RB rw) rn))))])), (ga, .inl (cB, 8192, .inl (g))), (ra, .inl (cB, 64, .inl (rw))), (ka, .inl (cI, 1100, .inl (kd2))), (wa, .inl (cI, 1100, .inl (wd2)))] _ from (by rw [hset]; show va_P (dC, dI) classes [(h, .inr (4, [.int (nI (0)), .ref fa, .int (n0), .ref ga, .int (nI (1)), .int (nI (s0)), .ref ra, .int (nI (0)), .ref ka, .ref wa, .int (nI ((fm_its LL).length))])), (ga, .inl (cB, 8192, .inl (g))), (ra, .inl (cB, 64, .inl (rw))), (ka, .inl (cI, 1100, .inl (kd2))), (wa, .inl (cI, 1100, .inl (wd2)))] _; rw [← Nat.zero_add (fm_its LL).length]; exact hP), hS.F ht⟩) hS.2.2 d_MO_set_228
                · have c_198 := c0
                  have hpos : 0 < P.length := by
                    rcases Nat.eq_zero_or_pos P.length with h | h
                    · exact absurd (by rw [h]; decide) c_198
                    · exact h
                  obtain ⟨P2, q, rfl⟩ := fm_snoc hpos
                  have hkq := fm_RL_last hRL
                  have hq8 := hok8 q (by rw [← hPQ]; simp)
                  have hPl : (P2 ++ [q]).length = P2.length + 1 := by simp
                  have h9 := congrArg List.length hPQ
                  rw [List.length_append, hPl] at h9
                  have hitsl : (fm_its Q).length ≤ Q.length := List.length_filter_le _ _
                  rw [hPl] at hP hD
                  have hl : lv_has ls 4 [(0, .ref h), (3, .int (nI (P2.length)))] := by rw [show ((nI ((P2 ++ [q])).length - nI 1) : Int32) = nI (P2.length) from by rw [hPl]; exact nI_pred _] at hl; exact hl
                  refine lv_aload_n hx hb d_MO_set_201 rfl (lv_at hl 0 rfl) ?_
                  refine va_get (D := (dC, dI)) (ci := 4) (v := .ref ka) (C := R_MO) (T := F_MO) (N := 11) hx hb ht i_MO hown hK hP 0 rfl rfl 8 (by decide) (ht _ q_3_121) (fun _ h9 => h9) rfl d_MO_set_202 ?_
                  refine lv_iload_n hx hb d_MO_set_205 rfl (lv_at hl 1 rfl) ?_
                  refine va_iald hx hb hK hP 3 1 rfl rfl (vp_in_nI (by omega) (by omega)) d_MO_set_206 ?_
                  refine fm_tw (z := kd2 (P2.length)) (by rw [nI_clamp (by omega)]) ?_
                  refine fm_tw (z := nI (q.1)) (hkq) ?_
                  refine lv_sipush (v := nI (256)) hx hb d_MO_set_207 (by decide) ?_
                  refine lv_icmp_ne (tgt := 218) hx hb d_MO_set_210 (by decide) (fun c0 => ?_) (fun c0 => ?_)
                  · have c_210 : ¬ (q.1 = 256) := fun z => c0 ((nI_eq (a := q.1) (b := 256) (by omega) (by omega)).mpr z)
                    have hq256 : ¬ q.1 = 256 := c_210
                    rw [show P2.length + 1 + (fm_its Q).length = P2.length + (fm_its (q :: Q)).length by rw [fm_its_c hq256]; simp; omega] at hP hD
                    refine lv_iinc (v := (nI P2.length - nI 1)) (lv' := [(3, .int (nI P2.length - nI 1)), (0, .ref h)]) hx hb d_MO_set_218 hl (k := 1) rfl (fm_m1 _) (by decide) rfl (fun ls hl => ?_)
                    refine lv_goto (tgt := 197) hx hb d_MO_set_221 (by decide) ?_
                    exact ih_197 P2 (q :: Q) kd2 wd2 H locs ls (by first | exact ⟨by rw [← hPQ, List.append_assoc]; rfl, by rw [fm_its_c hq256, show P2 ++ q :: fm_its Q = (P2 ++ [q]) ++ fm_its Q by simp]; exact hRL⟩ | exact ⟨by rw [← hPQ, List.append_assoc]; rfl, by rw [fm_its_d hq256]; exact fm_RL_drop hRL⟩) (by simp) (by first | exact hP | (rw [show P2.length + (fm_its (q :: Q)).length = P2.length + 1 + (fm_its Q).length - 1 by rw [fm_its_d hq256]; omega]; exact hP)) (by first | exact hD | (rw [show P2.length + (fm_its (q :: Q)).length = P2.length + 1 + (fm_its Q).length - 1 by rw [fm_its_d hq256]; omega]; exact hD)) hS (lv_sub hl [1, 0] rfl)
                  · have c_210 : q.1 = 256 := (nI_eq (a := q.1) (b := 256) (by omega) (by omega)).mp c0
                    have hq256 : q.1 = 256 := c_210
                    refine lv_aload_n hx hb d_MO_set_213 rfl (lv_at hl 0 rfl) ?_
                    refine lv_iload_n hx hb d_MO_set_214 rfl (lv_at hl 1 rfl) ?_
                    refine fm_wv S (c_MO_remove l dC dI h (nI (0)) fa n0 ga (nI (1)) (nI (s0)) ra (nI (0)) ka wa (P2.length + 1 + (fm_its Q).length) cI kd2 wd2 P2.length (by omega) (by omega)) rfl rfl k_MO_remove q_4_50 ⟨Nat.le_of_ble_eq_true rfl, Nat.le_of_ble_eq_true rfl⟩ hP hD hS (hK.sub [1] rfl) [0, 3, 4] (by decide) rfl 0 rfl rfl rfl hl.1 rfl (Nat.le_of_ble_eq_true rfl) ⟨Nat.zero_le _, Nat.zero_le _⟩ d_MO_set_215 [(h, .inr (4, [.int (nI (0)), .ref fa, .int (n0), .ref ga, .int (nI (1)), .int (nI (s0)), .ref ra, .int (nI (0)), .ref ka, .ref wa, .int (nI ((P2.length + 1 + (fm_its Q).length) - 1))])), (ga, .inl (cB, 8192, .inl (g))), (ra, .inl (cB, 64, .inl (rw))), (ka, .inl (cI, 1100, .inl (fm_rm kd2 P2.length ((P2.length + 1 + (fm_its Q).length) - 1)))), (wa, .inl (cI, 1100, .inl (fm_rm wd2 P2.length ((P2.length + 1 + (fm_its Q).length) - 1))))] [1, 2] rfl rfl (show ∀ i, i < 5 → i ∈ ([0, 3, 4] : List Nat) ∨ i ∈ ([1, 2] : List Nat) by decide) (by decide) rfl (fun H locs hP hD hS => ?_)
                    have hP : va_P (dC, dI) classes [(h, .inr (4, [.int (nI (0)), .ref fa, .int (n0), .ref ga, .int (nI (1)), .int (nI (s0)), .ref ra, .int (nI (0)), .ref ka, .ref wa, .int (nI ((P2.length + 1 + (fm_its Q).length) - 1))])), (ga, .inl (cB, 8192, .inl (g))), (ra, .inl (cB, 64, .inl (rw))), (ka, .inl (cI, 1100, .inl (fm_rm kd2 P2.length ((P2.length + 1 + (fm_its Q).length) - 1)))), (wa, .inl (cI, 1100, .inl (fm_rm wd2 P2.length ((P2.length + 1 + (fm_its Q).length) - 1))))] _ := hP
                    have hD : va_D A [(h, .inr (4, [.int (nI (0)), .ref fa, .int (n0), .ref ga, .int (nI (1)), .int (nI (s0)), .ref ra, .int (nI (0)), .ref ka, .ref wa, .int (nI ((P2.length + 1 + (fm_its Q).length) - 1))])), (ga, .inl (cB, 8192, .inl (g))), (ra, .inl (cB, 64, .inl (rw))), (ka, .inl (cI, 1100, .inl (fm_rm kd2 P2.length ((P2.length + 1 + (fm_its Q).length) - 1)))), (wa, .inl (cI, 1100, .inl (fm_rm wd2 P2.length ((P2.length + 1 + (fm_its Q).length) - 1))))] := hD
                    refine lv_iinc (v := (nI P2.length - nI 1)) (lv' := [(3, .int (nI P2.length - nI 1)), (0, .ref h)]) hx hb d_MO_set_218 hl (k := 1) rfl (fm_m1 _) (by decide) rfl (fun ls hl => ?_)
                    refine lv_goto (tgt := 197) hx hb d_MO_set_221 (by decide) ?_
                    exact ih_197 P2 (q :: Q) (fm_rm kd2 P2.length ((P2.length + 1 + (fm_its Q).length) - 1)) (fm_rm wd2 P2.length ((P2.length + 1 + (fm_its Q).length) - 1)) H locs ls (by first | exact ⟨by rw [← hPQ, List.append_assoc]; rfl, by rw [fm_its_c hq256, show P2 ++ q :: fm_its Q = (P2 ++ [q]) ++ fm_its Q by simp]; exact hRL⟩ | exact ⟨by rw [← hPQ, List.append_assoc]; rfl, by rw [fm_its_d hq256]; exact fm_RL_drop hRL⟩) (by simp) (by first | exact hP | (rw [show P2.length + (fm_its (q :: Q)).length = P2.length + 1 + (fm_its Q).length - 1 by rw [fm_its_d hq256]; omega]; exact hP)) (by first | exact hD | (rw [show P2.length + (fm_its (q :: Q)).length = P2.length + 1 + (fm_its Q).length - 1 by rw [fm_its_d hq256]; omega]; exact hD)) hS (lv_sub hl [1, 0] rfl)
              · have c_160 : ¬ (D.length + T.length ≤ D.length + 1) := fun z => c0 ((nI_leI (a := D.length + T.length) (b := D.length + 1) (by omega) (by omega)).mpr z)
                obtain ⟨x, r, R, rfl⟩ := fm_two (T := T) (by omega)
                obtain ⟨hst1, hst2, hst3⟩ := fm_stp_ok hV (s := s0) (D := D) hok
                refine lv_iload_n hx hb d_MO_set_163 rfl (lv_at hl 2 rfl) ?_
                refine lv_sipush (v := nI (1000)) hx hb d_MO_set_164 (by decide) ?_
                refine lv_icmp_ne (tgt := 178) hx hb d_MO_set_167 (by decide) (fun c0 => ?_) (fun c0 => ?_)
                · have c_167 : ¬ (a = 1000) := fun z => c0 ((nI_eq (a := a) (b := 1000) (by omega) (by omega)).mpr z)
                  refine lv_iinc (v := nI (a + 1)) (lv' := [(2, .int (nI (a + 1))), (0, .ref h), (1, .int (nI (D.length)))]) hx hb d_MO_set_178 hl (k := 2) rfl (nI_1 _) (by decide) rfl (fun ls hl => ?_)
                  refine lv_aload_n hx hb d_MO_set_181 rfl (lv_at hl 1 rfl) ?_
                  refine lv_iload_n hx hb d_MO_set_182 rfl (lv_at hl 2 rfl) ?_
                  refine fm_xv S (c_MO_step l dC dI h (nI (0)) fa n0 ga (nI (1)) ra (nI (0)) ka wa (D.length + ((x :: r :: R)).length) s0 cB cI g kd2 wd2 D x r R (hV) (hs) (hRL) (by simp) (by simp only [List.length_cons] at *; omega) (hok)) rfl rfl k_MO_step q_4_46 ⟨Nat.le_of_ble_eq_true rfl, Nat.le_of_ble_eq_true rfl⟩ hP hD hS (hK.sub [0, 1] rfl) [0, 1, 3, 4] (by decide) rfl 0 rfl rfl rfl hl.1 rfl (Nat.le_of_ble_eq_true rfl) ⟨Nat.zero_le _, Nat.zero_le _⟩ d_MO_set_183 (fun u => [(h, .inr (4, [.int (nI (0)), .ref fa, .int (n0), .ref ga, .int (nI (1)), .int (nI (s0)), .ref ra, .int (nI (0)), .ref ka, .ref wa, .int (nI ((fm_stp (fm_RB g) s0 D (x :: r :: R)).1.length + (fm_stp (fm_RB g) s0 D (x :: r :: R)).2.length))])), (ga, .inl (cB, 8192, .inl (g))), (ra, .inl (cB, 64, .inl (rw))), (ka, .inl (cI, 1100, .inl (u.1))), (wa, .inl (cI, 1100, .inl (u.2)))]) [2] (fun _ => rfl) (fun _ => rfl) (fun _ => show ∀ i, i < 5 → i ∈ ([0, 1, 3, 4] : List Nat) ∨ i ∈ ([2] : List Nat) by decide) (by decide) (fun _ => rfl) (fun u hu H locs hP hD hS => ?_)
                  obtain ⟨kd3, wd3⟩ := u
                  have hu_183 : fm_RL kd3 wd3 ((fm_stp (fm_RB g) s0 D (x :: r :: R)).1 ++ fm_c0 (fm_stp (fm_RB g) s0 D (x :: r :: R)).2) := hu
                  have hP : va_P (dC, dI) classes [(h, .inr (4, [.int (nI (0)), .ref fa, .int (n0), .ref ga, .int (nI (1)), .int (nI (s0)), .ref ra, .int (nI (0)), .ref ka, .ref wa, .int (nI ((fm_stp (fm_RB g) s0 D (x :: r :: R)).1.length + (fm_stp (fm_RB g) s0 D (x :: r :: R)).2.length))])), (ga, .inl (cB, 8192, .inl (g))), (ra, .inl (cB, 64, .inl (rw))), (ka, .inl (cI, 1100, .inl (kd3))), (wa, .inl (cI, 1100, .inl (wd3)))] _ := hP
                  have hD : va_D A [(h, .inr (4, [.int (nI (0)), .ref fa, .int (n0), .ref ga, .int (nI (1)), .int (nI (s0)), .ref ra, .int (nI (0)), .ref ka, .ref wa, .int (nI ((fm_stp (fm_RB g) s0 D (x :: r :: R)).1.length + (fm_stp (fm_RB g) s0 D (x :: r :: R)).2.length))])), (ga, .inl (cB, 8192, .inl (g))), (ra, .inl (cB, 64, .inl (rw))), (ka, .inl (cI, 1100, .inl (kd3))), (wa, .inl (cI, 1100, .inl (wd3)))] := hD
                  refine lv_istore_n (lv' := [(1, .int (nI ((fm_stp (fm_RB g) s0 D (x :: r :: R)).1.length))), (2, .int (nI (a + 1))), (0, .ref h)]) hx hb d_MO_set_186 rfl hl (by decide) rfl (fun ls hl => ?_)
                  refine lv_goto (tgt := 153) hx hb d_MO_set_187 (by decide) ?_
                  exact ih_153 (a + 1) ((fm_stp (fm_RB g) s0 D (x :: r :: R)).1) ((fm_stp (fm_RB g) s0 D (x :: r :: R)).2) kd3 wd3 H locs ls (⟨by omega, hu_183, hst1, fm_stp_okI hV hokI hok, by simp only [List.length_cons] at *; omega, by rw [← fm_run_s (by simp) (by omega)]; exact hrun⟩) (by omega) hP hD hS (lv_sub hl [2, 0, 1] rfl)
                · have c_167 : a = 1000 := (nI_eq (a := a) (b := 1000) (by omega) (by omega)).mp c0
                  rw [c_167, fm_run_0 (by simp)] at hrun
                  have hset : (fm_set (fm_RB g) s0 (fm_T0 (fm_RB g) (fm_RB rw) rn)) = none := by unfold fm_set; rw [← hrun]; rfl
                  refine lv_aload_n hx hb d_MO_set_170 rfl (lv_at hl 0 rfl) ?_
                  refine lv_iconst (v := nI (0)) hx hb d_MO_set_171 (by decide) ?_
                  refine va_put (D := (dC, dI)) (ci := 4) (v := .int (nI (0))) (ty := .int) (C := R_MO) (T := F_MO) (N := 11) hx hb ht i_MO t_MO t_MO_ok n_MO hown hK hP hD hS 0 rfl rfl 10 (by decide) (ht _ q_3_123) (fun _ h9 => h9) rfl (by decide +kernel) (rfl) (rfl) (Nat.le_of_ble_eq_true rfl) d_MO_set_172 (fun H locs hP hD hS => ?_)
                  have hP : va_P (dC, dI) classes [(h, .inr (4, [.int (nI (0)), .ref fa, .int (n0), .ref ga, .int (nI (1)), .int (nI (s0)), .ref ra, .int (nI (0)), .ref ka, .ref wa, .int (nI (0))])), (ga, .inl (cB, 8192, .inl (g))), (ra, .inl (cB, 64, .inl (rw))), (ka, .inl (cI, 1100, .inl (kd2))), (wa, .inl (cI, 1100, .inl (wd2)))] _ := hP
                  have hD : va_D A [(h, .inr (4, [.int (nI (0)), .ref fa, .int (n0), .ref ga, .int (nI (1)), .int (nI (s0)), .ref ra, .int (nI (0)), .ref ka, .ref wa, .int (nI (0))])), (ga, .inl (cB, 8192, .inl (g))), (ra, .inl (cB, 64, .inl (rw))), (ka, .inl (cI, 1100, .inl (kd2))), (wa, .inl (cI, 1100, .inl (wd2)))] := hD
                  refine lv_bipush (v := ((-2))) hx hb d_MO_set_175 (by decide) ?_
                  exact W.iret hx hb hr (fun t ht hW => ⟨(kd2, wd2), (fun L hL9 => by rw [hset] at hL9; cases hL9), congrArg (fun z => Outcome.returned (some (Value.int z))) (by rw [hset]; rfl), by rw [ht]; exact show va_P (dC, dI) classes [(h, .inr (4, [.int (nI (0)), .ref fa, .int (n0), .ref ga, .int (nI (1)), .int (nI (s0)), .ref ra, .int (nI (0)), .ref ka, .ref wa, .int (nI (fm_sN (fm_set (fm_RB g) s0 (fm_T0 (fm_RB g) (fm_RB rw) rn))))])), (ga, .inl (cB, 8192, .inl (g))), (ra, .inl (cB, 64, .inl (rw))), (ka, .inl (cI, 1100, .inl (kd2))), (wa, .inl (cI, 1100, .inl (wd2)))] _ from (by rw [hset]; exact hP), hS.F ht⟩) hS.2.2 d_MO_set_177
            · have c_129 := c0
              have hE2 : (fm_E2 (fm_RB g)) = [256] := by unfold fm_E2; rw [if_neg c_129]
              refine lv_aload_n hx hb d_MO_set_132 rfl (lv_at hl 0 rfl) ?_
              refine lv_aload_n hx hb d_MO_set_133 rfl (lv_at hl 0 rfl) ?_
              refine va_get (D := (dC, dI)) (ci := 4) (v := .int (nI ((fm_E1 (fm_RB g)).length + rn))) (C := R_MO) (T := F_MO) (N := 11) hx hb ht i_MO hown hK hP 0 rfl rfl 10 (by decide) (ht _ q_3_123) (fun _ h9 => h9) rfl d_MO_set_134 ?_
              refine lv_sipush (v := nI (256)) hx hb d_MO_set_137 (by decide) ?_
              refine lv_iconst (v := nI (0)) hx hb d_MO_set_140 (by decide) ?_
              refine fm_wv S (c_MO_insert l dC dI h (nI (0)) fa n0 ga (nI (1)) (nI (s0)) ra (nI (rn)) ka wa ((fm_E1 (fm_RB g)).length + rn) cI kd2 wd2 ((fm_E1 (fm_RB g)).length + rn) (nI (256)) (nI (0)) (by omega) (by omega)) rfl rfl k_MO_insert q_4_42 ⟨Nat.le_of_ble_eq_true rfl, Nat.le_of_ble_eq_true rfl⟩ hP hD hS (hK.sub [1] rfl) [0, 3, 4] (by decide) rfl 0 rfl rfl rfl hl.1 rfl (Nat.le_of_ble_eq_true rfl) ⟨Nat.zero_le _, Nat.zero_le _⟩ d_MO_set_141 [(h, .inr (4, [.int (nI (0)), .ref fa, .int (n0), .ref ga, .int (nI (1)), .int (nI (s0)), .ref ra, .int (nI (rn)), .ref ka, .ref wa, .int (nI (((fm_E1 (fm_RB g)).length + rn) + 1))])), (ga, .inl (cB, 8192, .inl (g))), (ra, .inl (cB, 64, .inl (rw))), (ka, .inl (cI, 1100, .inl (fm_ins kd2 ((fm_E1 (fm_RB g)).length + rn) ((fm_E1 (fm_RB g)).length + rn) (nI (256))))), (wa, .inl (cI, 1100, .inl (fm_ins wd2 ((fm_E1 (fm_RB g)).length + rn) ((fm_E1 (fm_RB g)).length + rn) (nI (0)))))] [1, 2] rfl rfl (show ∀ i, i < 5 → i ∈ ([0, 3, 4] : List Nat) ∨ i ∈ ([1, 2] : List Nat) by decide) (by decide) rfl (fun H locs hP hD hS => ?_)
              have hP : va_P (dC, dI) classes [(h, .inr (4, [.int (nI (0)), .ref fa, .int (n0), .ref ga, .int (nI (1)), .int (nI (s0)), .ref ra, .int (nI (rn)), .ref ka, .ref wa, .int (nI (((fm_E1 (fm_RB g)).length + rn) + 1))])), (ga, .inl (cB, 8192, .inl (g))), (ra, .inl (cB, 64, .inl (rw))), (ka, .inl (cI, 1100, .inl (fm_ins kd2 ((fm_E1 (fm_RB g)).length + rn) ((fm_E1 (fm_RB g)).length + rn) (nI (256))))), (wa, .inl (cI, 1100, .inl (fm_ins wd2 ((fm_E1 (fm_RB g)).length + rn) ((fm_E1 (fm_RB g)).length + rn) (nI (0)))))] _ := hP
              have hD : va_D A [(h, .inr (4, [.int (nI (0)), .ref fa, .int (n0), .ref ga, .int (nI (1)), .int (nI (s0)), .ref ra, .int (nI (rn)), .ref ka, .ref wa, .int (nI (((fm_E1 (fm_RB g)).length + rn) + 1))])), (ga, .inl (cB, 8192, .inl (g))), (ra, .inl (cB, 64, .inl (rw))), (ka, .inl (cI, 1100, .inl (fm_ins kd2 ((fm_E1 (fm_RB g)).length + rn) ((fm_E1 (fm_RB g)).length + rn) (nI (256))))), (wa, .inl (cI, 1100, .inl (fm_ins wd2 ((fm_E1 (fm_RB g)).length + rn) ((fm_E1 (fm_RB g)).length + rn) (nI (0)))))] := hD
              refine lv_aload_n hx hb d_MO_set_144 rfl (lv_at hl 0 rfl) ?_
              refine lv_iconst (v := nI (0)) hx hb d_MO_set_145 (by decide) ?_
              refine va_put (D := (dC, dI)) (ci := 4) (v := .int (nI (0))) (ty := .int) (C := R_MO) (T := F_MO) (N := 11) hx hb ht i_MO t_MO t_MO_ok n_MO hown hK hP hD hS 0 rfl rfl 7 (by decide) (ht _ q_3_120) (fun _ h9 => h9) rfl (by decide +kernel) (rfl) (rfl) (Nat.le_of_ble_eq_true rfl) d_MO_set_146 (fun H locs hP hD hS => ?_)
              have hP : va_P (dC, dI) classes [(h, .inr (4, [.int (nI (0)), .ref fa, .int (n0), .ref ga, .int (nI (1)), .int (nI (s0)), .ref ra, .int (nI (0)), .ref ka, .ref wa, .int (nI (((fm_E1 (fm_RB g)).length + rn) + 1))])), (ga, .inl (cB, 8192, .inl (g))), (ra, .inl (cB, 64, .inl (rw))), (ka, .inl (cI, 1100, .inl (fm_ins kd2 ((fm_E1 (fm_RB g)).length + rn) ((fm_E1 (fm_RB g)).length + rn) (nI (256))))), (wa, .inl (cI, 1100, .inl (fm_ins wd2 ((fm_E1 (fm_RB g)).length + rn) ((fm_E1 (fm_RB g)).length + rn) (nI (0)))))] _ := hP
              have hD : va_D A [(h, .inr (4, [.int (nI (0)), .ref fa, .int (n0), .ref ga, .int (nI (1)), .int (nI (s0)), .ref ra, .int (nI (0)), .ref ka, .ref wa, .int (nI (((fm_E1 (fm_RB g)).length + rn) + 1))])), (ga, .inl (cB, 8192, .inl (g))), (ra, .inl (cB, 64, .inl (rw))), (ka, .inl (cI, 1100, .inl (fm_ins kd2 ((fm_E1 (fm_RB g)).length + rn) ((fm_E1 (fm_RB g)).length + rn) (nI (256))))), (wa, .inl (cI, 1100, .inl (fm_ins wd2 ((fm_E1 (fm_RB g)).length + rn) ((fm_E1 (fm_RB g)).length + rn) (nI (0)))))] := hD
              refine lv_iconst (v := nI (0)) hx hb d_MO_set_149 (by decide) ?_
              refine lv_istore_n (lv' := [(1, .int (nI (0))), (0, .ref h)]) hx hb d_MO_set_150 rfl hl (by decide) rfl (fun ls hl => ?_)
              refine lv_iconst (v := nI (0)) hx hb d_MO_set_151 (by decide) ?_
              refine lv_istore_n (lv' := [(2, .int (nI (0))), (1, .int (nI (0))), (0, .ref h)]) hx hb d_MO_set_152 rfl hl (by decide) rfl (fun ls hl => ?_)
              have hT : fm_T0 (fm_RB g) (fm_RB rw) rn = ((fm_E1 (fm_RB g)) ++ fm_row (fm_RB rw) rn) ++ (fm_E2 (fm_RB g)) := rfl
              rw [hE2] at hT
              have h7 := fm_RL_e hRL 256
              rw [hlen] at h7
              have hct : (fm_E1 (fm_RB g)).length + rn + 1 = ([] : List (Nat × Int32)).length + (fm_T0 (fm_RB g) (fm_RB rw) rn).length := by rw [hT, List.length_append, List.length_append, fm_row_len]; simp
              have hT0 := fm_T0_ok (B := fm_RB g) (r := fm_RB rw) (n := rn) hyes
              rw [hct] at hP hD
              refine fm_wloop5 (nL := 4) (LV := fun (a : Nat) (D : List (Nat × Int32)) (T : List Nat) (kd2 : Nat → Int32) (wd2 : Nat → Int32) => [(0, .ref h), (1, .int (nI (D.length))), (2, .int (nI (a)))]) (WS := fun (a : Nat) (D : List (Nat × Int32)) (T : List Nat) (kd2 : Nat → Int32) (wd2 : Nat → Int32) => [(h, .inr (4, [.int (nI (0)), .ref fa, .int (n0), .ref ga, .int (nI (1)), .int (nI (s0)), .ref ra, .int (nI (0)), .ref ka, .ref wa, .int (nI (D.length + T.length))])), (ga, .inl (cB, 8192, .inl (g))), (ra, .inl (cB, 64, .inl (rw))), (ka, .inl (cI, 1100, .inl (kd2))), (wa, .inl (cI, 1100, .inl (wd2)))]) (I := fun (a : Nat) (D : List (Nat × Int32)) (T : List Nat) (kd2 : Nat → Int32) (wd2 : Nat → Int32) => a ≤ 1000 ∧ fm_RL kd2 wd2 (D ++ fm_c0 T) ∧ fm_ok (fm_RB g) T ∧ fm_okI (fm_RB g) D ∧ D.length + T.length ≤ 66 + a ∧ fm_run (fm_RB g) s0 (1000 - a) D T = fm_run (fm_RB g) s0 1000 [] (fm_T0 (fm_RB g) (fm_RB rw) rn)) (μ := fun (a : Nat) (D : List (Nat × Int32)) (T : List Nat) (kd2 : Nat → Int32) (wd2 : Nat → Int32) => 1000 - a) ?_ 0 ([]) ((fm_T0 (fm_RB g) (fm_RB rw) rn)) (fm_ins kd2 ((fm_E1 (fm_RB g)).length + rn) ((fm_E1 (fm_RB g)).length + rn) (nI (256))) (fm_ins wd2 ((fm_E1 (fm_RB g)).length + rn) ((fm_E1 (fm_RB g)).length + rn) (nI (0))) (⟨by decide, by rw [hT, fm_c0_app]; exact h7, hT0, (fun q hq => by cases hq), by omega, rfl⟩) hP hD hS ls (lv_sub hl [2, 1, 0] rfl)
              intro a D T kd2 wd2 hI_153 ih_153 H locs ls hP hD hS hl
              have hl : lv_has ls 4 [(0, .ref h), (1, .int (nI (D.length))), (2, .int (nI (a)))] := hl
              have hP : va_P (dC, dI) classes [(h, .inr (4, [.int (nI (0)), .ref fa, .int (n0), .ref ga, .int (nI (1)), .int (nI (s0)), .ref ra, .int (nI (0)), .ref ka, .ref wa, .int (nI (D.length + T.length))])), (ga, .inl (cB, 8192, .inl (g))), (ra, .inl (cB, 64, .inl (rw))), (ka, .inl (cI, 1100, .inl (kd2))), (wa, .inl (cI, 1100, .inl (wd2)))] _ := hP
              have hD : va_D A [(h, .inr (4, [.int (nI (0)), .ref fa, .int (n0), .ref ga, .int (nI (1)), .int (nI (s0)), .ref ra, .int (nI (0)), .ref ka, .ref wa, .int (nI (D.length + T.length))])), (ga, .inl (cB, 8192, .inl (g))), (ra, .inl (cB, 64, .inl (rw))), (ka, .inl (cI, 1100, .inl (kd2))), (wa, .inl (cI, 1100, .inl (wd2)))] := hD
              obtain ⟨ha, hRL, hok, hokI, hsz, hrun⟩ := hI_153
              refine lv_iload_n hx hb d_MO_set_153 rfl (lv_at hl 1 rfl) ?_
              refine lv_iconst (v := nI (1)) hx hb d_MO_set_154 (by decide) ?_
              refine lv_iadd hx hb d_MO_set_155 ?_
              refine fm_tw (z := nI (D.length + 1)) (nI_add _ _) ?_
              refine lv_aload_n hx hb d_MO_set_156 rfl (lv_at hl 0 rfl) ?_
              refine va_get (D := (dC, dI)) (ci := 4) (v := .int (nI (D.length + T.length))) (C := R_MO) (T := F_MO) (N := 11) hx hb ht i_MO hown hK hP 0 rfl rfl 10 (by decide) (ht _ q_3_123) (fun _ h9 => h9) rfl d_MO_set_157 ?_
              refine lv_icmp_ge (tgt := 190) hx hb d_MO_set_160 (by decide) (fun c0 => ?_) (fun c0 => ?_)
              · have c_160 : D.length + T.length ≤ D.length + 1 := (nI_leI (a := D.length + T.length) (b := D.length + 1) (by omega) (by omega)).mp c0
                have hT1 : T.length ≤ 1 := by omega
                rw [fm_run_end hT1] at hrun
                have hset : (fm_set (fm_RB g) s0 (fm_T0 (fm_RB g) (fm_RB rw) rn)) = some (fm_its (D ++ fm_c0 T)) := by unfold fm_set; rw [← hrun]; rfl
                have hok8 := fm_okI_258 hL (fm_okI_app hokI (fm_c0_okI hok))
                generalize hLL : D ++ fm_c0 T = LL at hRL hset hok8
                have hLLn : D.length + T.length = LL.length + (fm_its []).length := by rw [← hLL, List.length_append, fm_c0_len]; rfl
                have hLL8 : LL.length ≤ 1066 := by have := hLLn; simp [fm_its] at this; omega
                refine lv_aload_n hx hb d_MO_set_190 rfl (lv_at hl 0 rfl) ?_
                refine va_get (D := (dC, dI)) (ci := 4) (v := .int (nI (D.length + T.length))) (C := R_MO) (T := F_MO) (N := 11) hx hb ht i_MO hown hK hP 0 rfl rfl 10 (by decide) (ht _ q_3_123) (fun _ h9 => h9) rfl d_MO_set_191 ?_
                refine lv_iconst (v := nI (1)) hx hb d_MO_set_194 (by decide) ?_
                refine lv_isub hx hb d_MO_set_195 ?_
                refine fm_tw (z := (nI LL.length - nI 1)) (by rw [show D.length + T.length = LL.length by have := hLLn; simp [fm_its] at this; exact this]) ?_
                refine lv_istore_n (lv' := [(3, .int (nI LL.length - nI 1)), (0, .ref h), (1, .int (nI (D.length))), (2, .int (nI (a)))]) hx hb d_MO_set_196 rfl hl (by decide) rfl (fun ls hl => ?_)
                refine fm_wloop4 (nL := 4) (LV := fun (P : List (Nat × Int32)) (Q : List (Nat × Int32)) (kd2 : Nat → Int32) (wd2 : Nat → Int32) => [(0, .ref h), (3, .int (nI P.length - nI 1))]) (WS := fun (P : List (Nat × Int32)) (Q : List (Nat × Int32)) (kd2 : Nat → Int32) (wd2 : Nat → Int32) => [(h, .inr (4, [.int (nI (0)), .ref fa, .int (n0), .ref ga, .int (nI (1)), .int (nI (s0)), .ref ra, .int (nI (0)), .ref ka, .ref wa, .int (nI (P.length + (fm_its Q).length))])), (ga, .inl (cB, 8192, .inl (g))), (ra, .inl (cB, 64, .inl (rw))), (ka, .inl (cI, 1100, .inl (kd2))), (wa, .inl (cI, 1100, .inl (wd2)))]) (I := fun (P : List (Nat × Int32)) (Q : List (Nat × Int32)) (kd2 : Nat → Int32) (wd2 : Nat → Int32) => P ++ Q = LL ∧ fm_RL kd2 wd2 (P ++ fm_its Q)) (μ := fun (P : List (Nat × Int32)) (Q : List (Nat × Int32)) (kd2 : Nat → Int32) (wd2 : Nat → Int32) => P.length) ?_ LL ([]) kd2 wd2 (⟨List.append_nil _, by show fm_RL kd2 wd2 (LL ++ []); rw [List.append_nil]; exact hRL⟩) (by rw [hLLn] at hP; exact hP) (by rw [hLLn] at hD; exact hD) hS ls (lv_sub hl [1, 0] rfl)
                intro P Q kd2 wd2 hI_197 ih_197 H locs ls hP hD hS hl
                have hl : lv_has ls 4 [(0, .ref h), (3, .int (nI P.length - nI 1))] := hl
                have hP : va_P (dC, dI) classes [(h, .inr (4, [.int (nI (0)), .ref fa, .int (n0), .ref ga, .int (nI (1)), .int (nI (s0)), .ref ra, .int (nI (0)), .ref ka, .ref wa, .int (nI (P.length + (fm_its Q).length))])), (ga, .inl (cB, 8192, .inl (g))), (ra, .inl (cB, 64, .inl (rw))), (ka, .inl (cI, 1100, .inl (kd2))), (wa, .inl (cI, 1100, .inl (wd2)))] _ := hP
                have hD : va_D A [(h, .inr (4, [.int (nI (0)), .ref fa, .int (n0), .ref ga, .int (nI (1)), .int (nI (s0)), .ref ra, .int (nI (0)), .ref ka, .ref wa, .int (nI (P.length + (fm_its Q).length))])), (ga, .inl (cB, 8192, .inl (g))), (ra, .inl (cB, 64, .inl (rw))), (ka, .inl (cI, 1100, .inl (kd2))), (wa, .inl (cI, 1100, .inl (wd2)))] := hD
                obtain ⟨hPQ, hRL⟩ := hI_197
                refine lv_iload_n hx hb d_MO_set_197 rfl (lv_at hl 1 rfl) ?_
                refine lv_if_lt (tgt := 224) hx hb d_MO_set_198 (by decide) (fun c0 => ?_) (fun c0 => ?_)
                · have c_198 := c0
                  have hP0 : P = [] := by
                    rcases Nat.eq_zero_or_pos P.length with h | h
                    · exact List.length_eq_zero_iff.mp h
                    · exact absurd (show nI (P.length - 1) < 0 by rw [← nI_pred (P.length - 1), show P.length - 1 + 1 = P.length by omega]; exact c_198) (nI_pos (by have h9 := congrArg List.length hPQ; rw [List.length_append] at h9; omega))
                  subst hP0
                  have hQ : Q = LL := hPQ
                  rw [hQ] at hRL hP hD
                  refine lv_aload_n hx hb d_MO_set_224 rfl (lv_at hl 0 rfl) ?_
                  refine va_get (D := (dC, dI)) (ci := 4) (v := .int (nI ((([] : List (Nat × Int32))).length + (fm_its LL).length))) (C := R_MO) (T := F_MO) (N := 11) hx hb ht i_MO hown hK hP 0 rfl rfl 10 (by decide) (ht _ q_3_123) (fun _ h9 => h9) rfl d_MO_set_225 ?_
                  exact W.iret hx hb hr (fun t ht hW => ⟨(kd2, wd2), (fun L hL9 => by rw [hset] at hL9; cases hL9; exact hRL), congrArg (fun z => Outcome.returned (some (Value.int z))) (by rw [hset]; show nI (0 + (fm_its LL).length) = nI (fm_its LL).length; rw [Nat.zero_add]), by rw [ht]; exact show va_P (dC, dI) classes [(h, .inr (4, [.int (nI (0)), .ref fa, .int (n0), .ref ga, .int (nI (1)), .int (nI (s0)), .ref ra, .int (nI (0)), .ref ka, .ref wa, .int (nI (fm_sN (fm_set (fm_RB g) s0 (fm_T0 (fm_RB g) (fm_RB rw) rn))))])), (ga, .inl (cB, 8192, .inl (g))), (ra, .inl (cB, 64, .inl (rw))), (ka, .inl (cI, 1100, .inl (kd2))), (wa, .inl (cI, 1100, .inl (wd2)))] _ from (by rw [hset]; show va_P (dC, dI) classes [(h, .inr (4, [.int (nI (0)), .ref fa, .int (n0), .ref ga, .int (nI (1)), .int (nI (s0)), .ref ra, .int (nI (0)), .ref ka, .ref wa, .int (nI ((fm_its LL).length))])), (ga, .inl (cB, 8192, .inl (g))), (ra, .inl (cB, 64, .inl (rw))), (ka, .inl (cI, 1100, .inl (kd2))), (wa, .inl (cI, 1100, .inl (wd2)))] _; rw [← Nat.zero_add (fm_its LL).length]; exact hP), hS.F ht⟩) hS.2.2 d_MO_set_228
                · have c_198 := c0
                  have hpos : 0 < P.length := by
                    rcases Nat.eq_zero_or_pos P.length with h | h
                    · exact absurd (by rw [h]; decide) c_198
                    · exact h
                  obtain ⟨P2, q, rfl⟩ := fm_snoc hpos
                  have hkq := fm_RL_last hRL
                  have hq8 := hok8 q (by rw [← hPQ]; simp)
                  have hPl : (P2 ++ [q]).length = P2.length + 1 := by simp
                  have h9 := congrArg List.length hPQ
                  rw [List.length_append, hPl] at h9
                  have hitsl : (fm_its Q).length ≤ Q.length := List.length_filter_le _ _
                  rw [hPl] at hP hD
                  have hl : lv_has ls 4 [(0, .ref h), (3, .int (nI (P2.length)))] := by rw [show ((nI ((P2 ++ [q])).length - nI 1) : Int32) = nI (P2.length) from by rw [hPl]; exact nI_pred _] at hl; exact hl
                  refine lv_aload_n hx hb d_MO_set_201 rfl (lv_at hl 0 rfl) ?_
                  refine va_get (D := (dC, dI)) (ci := 4) (v := .ref ka) (C := R_MO) (T := F_MO) (N := 11) hx hb ht i_MO hown hK hP 0 rfl rfl 8 (by decide) (ht _ q_3_121) (fun _ h9 => h9) rfl d_MO_set_202 ?_
                  refine lv_iload_n hx hb d_MO_set_205 rfl (lv_at hl 1 rfl) ?_
                  refine va_iald hx hb hK hP 3 1 rfl rfl (vp_in_nI (by omega) (by omega)) d_MO_set_206 ?_
                  refine fm_tw (z := kd2 (P2.length)) (by rw [nI_clamp (by omega)]) ?_
                  refine fm_tw (z := nI (q.1)) (hkq) ?_
                  refine lv_sipush (v := nI (256)) hx hb d_MO_set_207 (by decide) ?_
                  refine lv_icmp_ne (tgt := 218) hx hb d_MO_set_210 (by decide) (fun c0 => ?_) (fun c0 => ?_)
                  · have c_210 : ¬ (q.1 = 256) := fun z => c0 ((nI_eq (a := q.1) (b := 256) (by omega) (by omega)).mpr z)
                    have hq256 : ¬ q.1 = 256 := c_210
                    rw [show P2.length + 1 + (fm_its Q).length = P2.length + (fm_its (q :: Q)).length by rw [fm_its_c hq256]; simp; omega] at hP hD
                    refine lv_iinc (v := (nI P2.length - nI 1)) (lv' := [(3, .int (nI P2.length - nI 1)), (0, .ref h)]) hx hb d_MO_set_218 hl (k := 1) rfl (fm_m1 _) (by decide) rfl (fun ls hl => ?_)
                    refine lv_goto (tgt := 197) hx hb d_MO_set_221 (by decide) ?_
                    exact ih_197 P2 (q :: Q) kd2 wd2 H locs ls (by first | exact ⟨by rw [← hPQ, List.append_assoc]; rfl, by rw [fm_its_c hq256, show P2 ++ q :: fm_its Q = (P2 ++ [q]) ++ fm_its Q by simp]; exact hRL⟩ | exact ⟨by rw [← hPQ, List.append_assoc]; rfl, by rw [fm_its_d hq256]; exact fm_RL_drop hRL⟩) (by simp) (by first | exact hP | (rw [show P2.length + (fm_its (q :: Q)).length = P2.length + 1 + (fm_its Q).length - 1 by rw [fm_its_d hq256]; omega]; exact hP)) (by first | exact hD | (rw [show P2.length + (fm_its (q :: Q)).length = P2.length + 1 + (fm_its Q).length - 1 by rw [fm_its_d hq256]; omega]; exact hD)) hS (lv_sub hl [1, 0] rfl)
                  · have c_210 : q.1 = 256 := (nI_eq (a := q.1) (b := 256) (by omega) (by omega)).mp c0
                    have hq256 : q.1 = 256 := c_210
                    refine lv_aload_n hx hb d_MO_set_213 rfl (lv_at hl 0 rfl) ?_
                    refine lv_iload_n hx hb d_MO_set_214 rfl (lv_at hl 1 rfl) ?_
                    refine fm_wv S (c_MO_remove l dC dI h (nI (0)) fa n0 ga (nI (1)) (nI (s0)) ra (nI (0)) ka wa (P2.length + 1 + (fm_its Q).length) cI kd2 wd2 P2.length (by omega) (by omega)) rfl rfl k_MO_remove q_4_50 ⟨Nat.le_of_ble_eq_true rfl, Nat.le_of_ble_eq_true rfl⟩ hP hD hS (hK.sub [1] rfl) [0, 3, 4] (by decide) rfl 0 rfl rfl rfl hl.1 rfl (Nat.le_of_ble_eq_true rfl) ⟨Nat.zero_le _, Nat.zero_le _⟩ d_MO_set_215 [(h, .inr (4, [.int (nI (0)), .ref fa, .int (n0), .ref ga, .int (nI (1)), .int (nI (s0)), .ref ra, .int (nI (0)), .ref ka, .ref wa, .int (nI ((P2.length + 1 + (fm_its Q).length) - 1))])), (ga, .inl (cB, 8192, .inl (g))), (ra, .inl (cB, 64, .inl (rw))), (ka, .inl (cI, 1100, .inl (fm_rm kd2 P2.length ((P2.length + 1 + (fm_its Q).length) - 1)))), (wa, .inl (cI, 1100, .inl (fm_rm wd2 P2.length ((P2.length + 1 + (fm_its Q).length) - 1))))] [1, 2] rfl rfl (show ∀ i, i < 5 → i ∈ ([0, 3, 4] : List Nat) ∨ i ∈ ([1, 2] : List Nat) by decide) (by decide) rfl (fun H locs hP hD hS => ?_)
                    have hP : va_P (dC, dI) classes [(h, .inr (4, [.int (nI (0)), .ref fa, .int (n0), .ref ga, .int (nI (1)), .int (nI (s0)), .ref ra, .int (nI (0)), .ref ka, .ref wa, .int (nI ((P2.length + 1 + (fm_its Q).length) - 1))])), (ga, .inl (cB, 8192, .inl (g))), (ra, .inl (cB, 64, .inl (rw))), (ka, .inl (cI, 1100, .inl (fm_rm kd2 P2.length ((P2.length + 1 + (fm_its Q).length) - 1)))), (wa, .inl (cI, 1100, .inl (fm_rm wd2 P2.length ((P2.length + 1 + (fm_its Q).length) - 1))))] _ := hP
                    have hD : va_D A [(h, .inr (4, [.int (nI (0)), .ref fa, .int (n0), .ref ga, .int (nI (1)), .int (nI (s0)), .ref ra, .int (nI (0)), .ref ka, .ref wa, .int (nI ((P2.length + 1 + (fm_its Q).length) - 1))])), (ga, .inl (cB, 8192, .inl (g))), (ra, .inl (cB, 64, .inl (rw))), (ka, .inl (cI, 1100, .inl (fm_rm kd2 P2.length ((P2.length + 1 + (fm_its Q).length) - 1)))), (wa, .inl (cI, 1100, .inl (fm_rm wd2 P2.length ((P2.length + 1 + (fm_its Q).length) - 1))))] := hD
                    refine lv_iinc (v := (nI P2.length - nI 1)) (lv' := [(3, .int (nI P2.length - nI 1)), (0, .ref h)]) hx hb d_MO_set_218 hl (k := 1) rfl (fm_m1 _) (by decide) rfl (fun ls hl => ?_)
                    refine lv_goto (tgt := 197) hx hb d_MO_set_221 (by decide) ?_
                    exact ih_197 P2 (q :: Q) (fm_rm kd2 P2.length ((P2.length + 1 + (fm_its Q).length) - 1)) (fm_rm wd2 P2.length ((P2.length + 1 + (fm_its Q).length) - 1)) H locs ls (by first | exact ⟨by rw [← hPQ, List.append_assoc]; rfl, by rw [fm_its_c hq256, show P2 ++ q :: fm_its Q = (P2 ++ [q]) ++ fm_its Q by simp]; exact hRL⟩ | exact ⟨by rw [← hPQ, List.append_assoc]; rfl, by rw [fm_its_d hq256]; exact fm_RL_drop hRL⟩) (by simp) (by first | exact hP | (rw [show P2.length + (fm_its (q :: Q)).length = P2.length + 1 + (fm_its Q).length - 1 by rw [fm_its_d hq256]; omega]; exact hP)) (by first | exact hD | (rw [show P2.length + (fm_its (q :: Q)).length = P2.length + 1 + (fm_its Q).length - 1 by rw [fm_its_d hq256]; omega]; exact hD)) hS (lv_sub hl [1, 0] rfl)
              · have c_160 : ¬ (D.length + T.length ≤ D.length + 1) := fun z => c0 ((nI_leI (a := D.length + T.length) (b := D.length + 1) (by omega) (by omega)).mpr z)
                obtain ⟨x, r, R, rfl⟩ := fm_two (T := T) (by omega)
                obtain ⟨hst1, hst2, hst3⟩ := fm_stp_ok hV (s := s0) (D := D) hok
                refine lv_iload_n hx hb d_MO_set_163 rfl (lv_at hl 2 rfl) ?_
                refine lv_sipush (v := nI (1000)) hx hb d_MO_set_164 (by decide) ?_
                refine lv_icmp_ne (tgt := 178) hx hb d_MO_set_167 (by decide) (fun c0 => ?_) (fun c0 => ?_)
                · have c_167 : ¬ (a = 1000) := fun z => c0 ((nI_eq (a := a) (b := 1000) (by omega) (by omega)).mpr z)
                  refine lv_iinc (v := nI (a + 1)) (lv' := [(2, .int (nI (a + 1))), (0, .ref h), (1, .int (nI (D.length)))]) hx hb d_MO_set_178 hl (k := 2) rfl (nI_1 _) (by decide) rfl (fun ls hl => ?_)
                  refine lv_aload_n hx hb d_MO_set_181 rfl (lv_at hl 1 rfl) ?_
                  refine lv_iload_n hx hb d_MO_set_182 rfl (lv_at hl 2 rfl) ?_
                  refine fm_xv S (c_MO_step l dC dI h (nI (0)) fa n0 ga (nI (1)) ra (nI (0)) ka wa (D.length + ((x :: r :: R)).length) s0 cB cI g kd2 wd2 D x r R (hV) (hs) (hRL) (by simp) (by simp only [List.length_cons] at *; omega) (hok)) rfl rfl k_MO_step q_4_46 ⟨Nat.le_of_ble_eq_true rfl, Nat.le_of_ble_eq_true rfl⟩ hP hD hS (hK.sub [0, 1] rfl) [0, 1, 3, 4] (by decide) rfl 0 rfl rfl rfl hl.1 rfl (Nat.le_of_ble_eq_true rfl) ⟨Nat.zero_le _, Nat.zero_le _⟩ d_MO_set_183 (fun u => [(h, .inr (4, [.int (nI (0)), .ref fa, .int (n0), .ref ga, .int (nI (1)), .int (nI (s0)), .ref ra, .int (nI (0)), .ref ka, .ref wa, .int (nI ((fm_stp (fm_RB g) s0 D (x :: r :: R)).1.length + (fm_stp (fm_RB g) s0 D (x :: r :: R)).2.length))])), (ga, .inl (cB, 8192, .inl (g))), (ra, .inl (cB, 64, .inl (rw))), (ka, .inl (cI, 1100, .inl (u.1))), (wa, .inl (cI, 1100, .inl (u.2)))]) [2] (fun _ => rfl) (fun _ => rfl) (fun _ => show ∀ i, i < 5 → i ∈ ([0, 1, 3, 4] : List Nat) ∨ i ∈ ([2] : List Nat) by decide) (by decide) (fun _ => rfl) (fun u hu H locs hP hD hS => ?_)
                  obtain ⟨kd3, wd3⟩ := u
                  have hu_183 : fm_RL kd3 wd3 ((fm_stp (fm_RB g) s0 D (x :: r :: R)).1 ++ fm_c0 (fm_stp (fm_RB g) s0 D (x :: r :: R)).2) := hu
                  have hP : va_P (dC, dI) classes [(h, .inr (4, [.int (nI (0)), .ref fa, .int (n0), .ref ga, .int (nI (1)), .int (nI (s0)), .ref ra, .int (nI (0)), .ref ka, .ref wa, .int (nI ((fm_stp (fm_RB g) s0 D (x :: r :: R)).1.length + (fm_stp (fm_RB g) s0 D (x :: r :: R)).2.length))])), (ga, .inl (cB, 8192, .inl (g))), (ra, .inl (cB, 64, .inl (rw))), (ka, .inl (cI, 1100, .inl (kd3))), (wa, .inl (cI, 1100, .inl (wd3)))] _ := hP
                  have hD : va_D A [(h, .inr (4, [.int (nI (0)), .ref fa, .int (n0), .ref ga, .int (nI (1)), .int (nI (s0)), .ref ra, .int (nI (0)), .ref ka, .ref wa, .int (nI ((fm_stp (fm_RB g) s0 D (x :: r :: R)).1.length + (fm_stp (fm_RB g) s0 D (x :: r :: R)).2.length))])), (ga, .inl (cB, 8192, .inl (g))), (ra, .inl (cB, 64, .inl (rw))), (ka, .inl (cI, 1100, .inl (kd3))), (wa, .inl (cI, 1100, .inl (wd3)))] := hD
                  refine lv_istore_n (lv' := [(1, .int (nI ((fm_stp (fm_RB g) s0 D (x :: r :: R)).1.length))), (2, .int (nI (a + 1))), (0, .ref h)]) hx hb d_MO_set_186 rfl hl (by decide) rfl (fun ls hl => ?_)
                  refine lv_goto (tgt := 153) hx hb d_MO_set_187 (by decide) ?_
                  exact ih_153 (a + 1) ((fm_stp (fm_RB g) s0 D (x :: r :: R)).1) ((fm_stp (fm_RB g) s0 D (x :: r :: R)).2) kd3 wd3 H locs ls (⟨by omega, hu_183, hst1, fm_stp_okI hV hokI hok, by simp only [List.length_cons] at *; omega, by rw [← fm_run_s (by simp) (by omega)]; exact hrun⟩) (by omega) hP hD hS (lv_sub hl [2, 0, 1] rfl)
                · have c_167 : a = 1000 := (nI_eq (a := a) (b := 1000) (by omega) (by omega)).mp c0
                  rw [c_167, fm_run_0 (by simp)] at hrun
                  have hset : (fm_set (fm_RB g) s0 (fm_T0 (fm_RB g) (fm_RB rw) rn)) = none := by unfold fm_set; rw [← hrun]; rfl
                  refine lv_aload_n hx hb d_MO_set_170 rfl (lv_at hl 0 rfl) ?_
                  refine lv_iconst (v := nI (0)) hx hb d_MO_set_171 (by decide) ?_
                  refine va_put (D := (dC, dI)) (ci := 4) (v := .int (nI (0))) (ty := .int) (C := R_MO) (T := F_MO) (N := 11) hx hb ht i_MO t_MO t_MO_ok n_MO hown hK hP hD hS 0 rfl rfl 10 (by decide) (ht _ q_3_123) (fun _ h9 => h9) rfl (by decide +kernel) (rfl) (rfl) (Nat.le_of_ble_eq_true rfl) d_MO_set_172 (fun H locs hP hD hS => ?_)
                  have hP : va_P (dC, dI) classes [(h, .inr (4, [.int (nI (0)), .ref fa, .int (n0), .ref ga, .int (nI (1)), .int (nI (s0)), .ref ra, .int (nI (0)), .ref ka, .ref wa, .int (nI (0))])), (ga, .inl (cB, 8192, .inl (g))), (ra, .inl (cB, 64, .inl (rw))), (ka, .inl (cI, 1100, .inl (kd2))), (wa, .inl (cI, 1100, .inl (wd2)))] _ := hP
                  have hD : va_D A [(h, .inr (4, [.int (nI (0)), .ref fa, .int (n0), .ref ga, .int (nI (1)), .int (nI (s0)), .ref ra, .int (nI (0)), .ref ka, .ref wa, .int (nI (0))])), (ga, .inl (cB, 8192, .inl (g))), (ra, .inl (cB, 64, .inl (rw))), (ka, .inl (cI, 1100, .inl (kd2))), (wa, .inl (cI, 1100, .inl (wd2)))] := hD
                  refine lv_bipush (v := ((-2))) hx hb d_MO_set_175 (by decide) ?_
                  exact W.iret hx hb hr (fun t ht hW => ⟨(kd2, wd2), (fun L hL9 => by rw [hset] at hL9; cases hL9), congrArg (fun z => Outcome.returned (some (Value.int z))) (by rw [hset]; rfl), by rw [ht]; exact show va_P (dC, dI) classes [(h, .inr (4, [.int (nI (0)), .ref fa, .int (n0), .ref ga, .int (nI (1)), .int (nI (s0)), .ref ra, .int (nI (0)), .ref ka, .ref wa, .int (nI (fm_sN (fm_set (fm_RB g) s0 (fm_T0 (fm_RB g) (fm_RB rw) rn))))])), (ga, .inl (cB, 8192, .inl (g))), (ra, .inl (cB, 64, .inl (rw))), (ka, .inl (cI, 1100, .inl (kd2))), (wa, .inl (cI, 1100, .inl (wd2)))] _ from (by rw [hset]; exact hP), hS.F ht⟩) hS.2.2 d_MO_set_177
          · have c_94 : ¬ (rn ≤ i) := fun z => c0 ((nI_leI (a := rn) (b := i) (by omega) (by omega)).mpr z)
            refine lv_aload_n hx hb d_MO_set_97 rfl (lv_at hl 0 rfl) ?_
            refine lv_aload_n hx hb d_MO_set_98 rfl (lv_at hl 0 rfl) ?_
            refine va_get (D := (dC, dI)) (ci := 4) (v := .int (nI ((fm_E1 (fm_RB g)).length + i))) (C := R_MO) (T := F_MO) (N := 11) hx hb ht i_MO hown hK hP 0 rfl rfl 10 (by decide) (ht _ q_3_123) (fun _ h9 => h9) rfl d_MO_set_99 ?_
            refine lv_aload_n hx hb d_MO_set_102 rfl (lv_at hl 0 rfl) ?_
            refine va_get (D := (dC, dI)) (ci := 4) (v := .ref ra) (C := R_MO) (T := F_MO) (N := 11) hx hb ht i_MO hown hK hP 0 rfl rfl 6 (by decide) (ht _ q_3_119) (fun _ h9 => h9) rfl d_MO_set_103 ?_
            refine lv_iload_n hx hb d_MO_set_106 rfl (lv_at hl 1 rfl) ?_
            refine va_bald hx hb hK hP 2 0 rfl rfl (vp_in_nI (by omega) (by omega)) d_MO_set_107 ?_
            refine fm_tw (z := rw (i)) (by rw [nI_clamp (by omega)]) ?_
            refine lv_sipush (v := nI (255)) hx hb d_MO_set_108 (by decide) ?_
            refine lv_iand hx hb d_MO_set_111 ?_
            refine fm_tw (z := nI (fm_RB rw (i))) (fm_RB_and _ _) ?_
            refine lv_iconst (v := nI (0)) hx hb d_MO_set_112 (by decide) ?_
            refine fm_wv S (c_MO_insert l dC dI h (nI (0)) fa n0 ga (nI (1)) (nI (s0)) ra (nI (rn)) ka wa ((fm_E1 (fm_RB g)).length + i) cI kd2 wd2 ((fm_E1 (fm_RB g)).length + i) (nI (fm_RB rw (i))) (nI (0)) (by omega) (by omega)) rfl rfl k_MO_insert q_4_42 ⟨Nat.le_of_ble_eq_true rfl, Nat.le_of_ble_eq_true rfl⟩ hP hD hS (hK.sub [1] rfl) [0, 3, 4] (by decide) rfl 0 rfl rfl rfl hl.1 rfl (Nat.le_of_ble_eq_true rfl) ⟨Nat.zero_le _, Nat.zero_le _⟩ d_MO_set_113 [(h, .inr (4, [.int (nI (0)), .ref fa, .int (n0), .ref ga, .int (nI (1)), .int (nI (s0)), .ref ra, .int (nI (rn)), .ref ka, .ref wa, .int (nI (((fm_E1 (fm_RB g)).length + i) + 1))])), (ga, .inl (cB, 8192, .inl (g))), (ra, .inl (cB, 64, .inl (rw))), (ka, .inl (cI, 1100, .inl (fm_ins kd2 ((fm_E1 (fm_RB g)).length + i) ((fm_E1 (fm_RB g)).length + i) (nI (fm_RB rw (i)))))), (wa, .inl (cI, 1100, .inl (fm_ins wd2 ((fm_E1 (fm_RB g)).length + i) ((fm_E1 (fm_RB g)).length + i) (nI (0)))))] [1, 2] rfl rfl (show ∀ i, i < 5 → i ∈ ([0, 3, 4] : List Nat) ∨ i ∈ ([1, 2] : List Nat) by decide) (by decide) rfl (fun H locs hP hD hS => ?_)
            have hP : va_P (dC, dI) classes [(h, .inr (4, [.int (nI (0)), .ref fa, .int (n0), .ref ga, .int (nI (1)), .int (nI (s0)), .ref ra, .int (nI (rn)), .ref ka, .ref wa, .int (nI (((fm_E1 (fm_RB g)).length + i) + 1))])), (ga, .inl (cB, 8192, .inl (g))), (ra, .inl (cB, 64, .inl (rw))), (ka, .inl (cI, 1100, .inl (fm_ins kd2 ((fm_E1 (fm_RB g)).length + i) ((fm_E1 (fm_RB g)).length + i) (nI (fm_RB rw (i)))))), (wa, .inl (cI, 1100, .inl (fm_ins wd2 ((fm_E1 (fm_RB g)).length + i) ((fm_E1 (fm_RB g)).length + i) (nI (0)))))] _ := hP
            have hD : va_D A [(h, .inr (4, [.int (nI (0)), .ref fa, .int (n0), .ref ga, .int (nI (1)), .int (nI (s0)), .ref ra, .int (nI (rn)), .ref ka, .ref wa, .int (nI (((fm_E1 (fm_RB g)).length + i) + 1))])), (ga, .inl (cB, 8192, .inl (g))), (ra, .inl (cB, 64, .inl (rw))), (ka, .inl (cI, 1100, .inl (fm_ins kd2 ((fm_E1 (fm_RB g)).length + i) ((fm_E1 (fm_RB g)).length + i) (nI (fm_RB rw (i)))))), (wa, .inl (cI, 1100, .inl (fm_ins wd2 ((fm_E1 (fm_RB g)).length + i) ((fm_E1 (fm_RB g)).length + i) (nI (0)))))] := hD
            refine lv_iinc (v := nI (i + 1)) (lv' := [(1, .int (nI (i + 1))), (0, .ref h)]) hx hb d_MO_set_116 hl (k := 1) rfl (nI_1 _) (by decide) rfl (fun ls hl => ?_)
            refine lv_goto (tgt := 89) hx hb d_MO_set_119 (by decide) ?_
            exact ih_89 (i + 1) (fm_ins kd2 ((fm_E1 (fm_RB g)).length + i) ((fm_E1 (fm_RB g)).length + i) (nI (fm_RB rw (i)))) (fm_ins wd2 ((fm_E1 (fm_RB g)).length + i) ((fm_E1 (fm_RB g)).length + i) (nI (0))) H locs ls (⟨by omega, by rw [fm_row_s, ← List.append_assoc, fm_c0_app]; have h8 := fm_RL_e hRL (fm_RB rw i); rw [hlen] at h8; exact h8⟩) (by omega) hP hD hS (lv_sub hl [1, 0] rfl)
        · have c_75 := c0
          have hE : (fm_E1 (fm_RB g)) = [256] := by unfold fm_E1; rw [if_neg c_75]
          refine lv_aload_n hx hb d_MO_set_78 rfl (lv_at hl 0 rfl) ?_
          refine lv_iconst (v := nI (0)) hx hb d_MO_set_79 (by decide) ?_
          refine lv_sipush (v := nI (256)) hx hb d_MO_set_80 (by decide) ?_
          refine lv_iconst (v := nI (0)) hx hb d_MO_set_83 (by decide) ?_
          refine fm_wv S (c_MO_insert l dC dI h (nI (0)) fa n0 ga (nI (1)) (nI (s0)) ra (nI (rn)) ka wa 0 cI kd wd 0 (nI (256)) (nI (0)) (by omega) (by omega)) rfl rfl k_MO_insert q_4_42 ⟨Nat.le_of_ble_eq_true rfl, Nat.le_of_ble_eq_true rfl⟩ hP hD hS (hK.sub [1] rfl) [0, 3, 4] (by decide) rfl 0 rfl rfl rfl hl.1 rfl (Nat.le_of_ble_eq_true rfl) ⟨Nat.zero_le _, Nat.zero_le _⟩ d_MO_set_84 [(h, .inr (4, [.int (nI (0)), .ref fa, .int (n0), .ref ga, .int (nI (1)), .int (nI (s0)), .ref ra, .int (nI (rn)), .ref ka, .ref wa, .int (nI (0 + 1))])), (ga, .inl (cB, 8192, .inl (g))), (ra, .inl (cB, 64, .inl (rw))), (ka, .inl (cI, 1100, .inl (fm_ins kd 0 0 (nI (256))))), (wa, .inl (cI, 1100, .inl (fm_ins wd 0 0 (nI (0)))))] [1, 2] rfl rfl (show ∀ i, i < 5 → i ∈ ([0, 3, 4] : List Nat) ∨ i ∈ ([1, 2] : List Nat) by decide) (by decide) rfl (fun H locs hP hD hS => ?_)
          have hP : va_P (dC, dI) classes [(h, .inr (4, [.int (nI (0)), .ref fa, .int (n0), .ref ga, .int (nI (1)), .int (nI (s0)), .ref ra, .int (nI (rn)), .ref ka, .ref wa, .int (nI (0 + 1))])), (ga, .inl (cB, 8192, .inl (g))), (ra, .inl (cB, 64, .inl (rw))), (ka, .inl (cI, 1100, .inl (fm_ins kd 0 0 (nI (256))))), (wa, .inl (cI, 1100, .inl (fm_ins wd 0 0 (nI (0)))))] _ := hP
          have hD : va_D A [(h, .inr (4, [.int (nI (0)), .ref fa, .int (n0), .ref ga, .int (nI (1)), .int (nI (s0)), .ref ra, .int (nI (rn)), .ref ka, .ref wa, .int (nI (0 + 1))])), (ga, .inl (cB, 8192, .inl (g))), (ra, .inl (cB, 64, .inl (rw))), (ka, .inl (cI, 1100, .inl (fm_ins kd 0 0 (nI (256))))), (wa, .inl (cI, 1100, .inl (fm_ins wd 0 0 (nI (0)))))] := hD
          refine lv_iconst (v := nI (0)) hx hb d_MO_set_87 (by decide) ?_
          refine lv_istore_n (lv' := [(1, .int (nI (0))), (0, .ref h)]) hx hb d_MO_set_88 rfl hl (by decide) rfl (fun ls hl => ?_)
          refine fm_wloop3 (nL := 4) (LV := fun (i : Nat) (kd2 : Nat → Int32) (wd2 : Nat → Int32) => [(0, .ref h), (1, .int (nI (i)))]) (WS := fun (i : Nat) (kd2 : Nat → Int32) (wd2 : Nat → Int32) => [(h, .inr (4, [.int (nI (0)), .ref fa, .int (n0), .ref ga, .int (nI (1)), .int (nI (s0)), .ref ra, .int (nI (rn)), .ref ka, .ref wa, .int (nI ((fm_E1 (fm_RB g)).length + i))])), (ga, .inl (cB, 8192, .inl (g))), (ra, .inl (cB, 64, .inl (rw))), (ka, .inl (cI, 1100, .inl (kd2))), (wa, .inl (cI, 1100, .inl (wd2)))]) (I := fun (i : Nat) (kd2 : Nat → Int32) (wd2 : Nat → Int32) => i ≤ rn ∧ fm_RL kd2 wd2 (fm_c0 ((fm_E1 (fm_RB g)) ++ fm_row (fm_RB rw) i))) (μ := fun (i : Nat) (kd2 : Nat → Int32) (wd2 : Nat → Int32) => rn - i) ?_ 0 (fm_ins kd 0 0 (nI (256))) (fm_ins wd 0 0 (nI (0))) (⟨Nat.zero_le _, by rw [hE]; exact fm_RL_e (fm_RL_nil kd wd) 256⟩) (by rw [hE]; exact hP) (by rw [hE]; exact hD) hS ls (lv_sub hl [1, 0] rfl)
          intro i kd2 wd2 hI_89 ih_89 H locs ls hP hD hS hl
          have hl : lv_has ls 4 [(0, .ref h), (1, .int (nI (i)))] := hl
          have hP : va_P (dC, dI) classes [(h, .inr (4, [.int (nI (0)), .ref fa, .int (n0), .ref ga, .int (nI (1)), .int (nI (s0)), .ref ra, .int (nI (rn)), .ref ka, .ref wa, .int (nI ((fm_E1 (fm_RB g)).length + i))])), (ga, .inl (cB, 8192, .inl (g))), (ra, .inl (cB, 64, .inl (rw))), (ka, .inl (cI, 1100, .inl (kd2))), (wa, .inl (cI, 1100, .inl (wd2)))] _ := hP
          have hD : va_D A [(h, .inr (4, [.int (nI (0)), .ref fa, .int (n0), .ref ga, .int (nI (1)), .int (nI (s0)), .ref ra, .int (nI (rn)), .ref ka, .ref wa, .int (nI ((fm_E1 (fm_RB g)).length + i))])), (ga, .inl (cB, 8192, .inl (g))), (ra, .inl (cB, 64, .inl (rw))), (ka, .inl (cI, 1100, .inl (kd2))), (wa, .inl (cI, 1100, .inl (wd2)))] := hD
          obtain ⟨hi, hRL⟩ := hI_89
          have hE1 := fm_E1_len (fm_RB g)
          have hlen : (fm_c0 ((fm_E1 (fm_RB g)) ++ fm_row (fm_RB rw) i)).length = (fm_E1 (fm_RB g)).length + i := by rw [fm_c0_len, List.length_append, fm_row_len]
          refine lv_iload_n hx hb d_MO_set_89 rfl (lv_at hl 1 rfl) ?_
          refine lv_aload_n hx hb d_MO_set_90 rfl (lv_at hl 0 rfl) ?_
          refine va_get (D := (dC, dI)) (ci := 4) (v := .int (nI (rn))) (C := R_MO) (T := F_MO) (N := 11) hx hb ht i_MO hown hK hP 0 rfl rfl 7 (by decide) (ht _ q_3_120) (fun _ h9 => h9) rfl d_MO_set_91 ?_
          refine lv_icmp_ge (tgt := 122) hx hb d_MO_set_94 (by decide) (fun c0 => ?_) (fun c0 => ?_)
          · have c_94 : rn ≤ i := (nI_leI (a := rn) (b := i) (by omega) (by omega)).mp c0
            have hin : i = rn := by omega
            rw [hin] at hRL hP hD hlen
            have hl := lv_sub hl [0] rfl
            refine lv_aload_n hx hb d_MO_set_122 rfl (lv_at hl 0 rfl) ?_
            refine va_get (D := (dC, dI)) (ci := 4) (v := .ref ga) (C := R_MO) (T := F_MO) (N := 11) hx hb ht i_MO hown hK hP 0 rfl rfl 3 (by decide) (ht _ q_3_116) (fun _ h9 => h9) rfl d_MO_set_123 ?_
            refine fm_cs S (c_MO_edgeOf l dC dI ga cB g (hL)) rfl rfl k_MO_edgeOf q_3_221 ⟨Nat.le_of_ble_eq_true rfl, Nat.le_of_ble_eq_true rfl⟩ (hP.sub [1] rfl) (hK.sub [0] rfl) rfl hl.1 rfl (Nat.le_of_ble_eq_true rfl) ⟨Nat.zero_le _, Nat.zero_le _⟩ d_MO_set_126 ?_
            refine lv_if_lt (tgt := 144) hx hb d_MO_set_129 (by decide) (fun c0 => ?_) (fun c0 => ?_)
            · have c_129 := c0
              have hE2 : (fm_E2 (fm_RB g)) = [] := by unfold fm_E2; rw [if_pos c_129]
              refine lv_aload_n hx hb d_MO_set_144 rfl (lv_at hl 0 rfl) ?_
              refine lv_iconst (v := nI (0)) hx hb d_MO_set_145 (by decide) ?_
              refine va_put (D := (dC, dI)) (ci := 4) (v := .int (nI (0))) (ty := .int) (C := R_MO) (T := F_MO) (N := 11) hx hb ht i_MO t_MO t_MO_ok n_MO hown hK hP hD hS 0 rfl rfl 7 (by decide) (ht _ q_3_120) (fun _ h9 => h9) rfl (by decide +kernel) (rfl) (rfl) (Nat.le_of_ble_eq_true rfl) d_MO_set_146 (fun H locs hP hD hS => ?_)
              have hP : va_P (dC, dI) classes [(h, .inr (4, [.int (nI (0)), .ref fa, .int (n0), .ref ga, .int (nI (1)), .int (nI (s0)), .ref ra, .int (nI (0)), .ref ka, .ref wa, .int (nI ((fm_E1 (fm_RB g)).length + rn))])), (ga, .inl (cB, 8192, .inl (g))), (ra, .inl (cB, 64, .inl (rw))), (ka, .inl (cI, 1100, .inl (kd2))), (wa, .inl (cI, 1100, .inl (wd2)))] _ := hP
              have hD : va_D A [(h, .inr (4, [.int (nI (0)), .ref fa, .int (n0), .ref ga, .int (nI (1)), .int (nI (s0)), .ref ra, .int (nI (0)), .ref ka, .ref wa, .int (nI ((fm_E1 (fm_RB g)).length + rn))])), (ga, .inl (cB, 8192, .inl (g))), (ra, .inl (cB, 64, .inl (rw))), (ka, .inl (cI, 1100, .inl (kd2))), (wa, .inl (cI, 1100, .inl (wd2)))] := hD
              refine lv_iconst (v := nI (0)) hx hb d_MO_set_149 (by decide) ?_
              refine lv_istore_n (lv' := [(1, .int (nI (0))), (0, .ref h)]) hx hb d_MO_set_150 rfl hl (by decide) rfl (fun ls hl => ?_)
              refine lv_iconst (v := nI (0)) hx hb d_MO_set_151 (by decide) ?_
              refine lv_istore_n (lv' := [(2, .int (nI (0))), (1, .int (nI (0))), (0, .ref h)]) hx hb d_MO_set_152 rfl hl (by decide) rfl (fun ls hl => ?_)
              have hT : fm_T0 (fm_RB g) (fm_RB rw) rn = ((fm_E1 (fm_RB g)) ++ fm_row (fm_RB rw) rn) ++ (fm_E2 (fm_RB g)) := rfl
              rw [hE2] at hT
              have h7 := hRL
              have hct : (fm_E1 (fm_RB g)).length + rn = ([] : List (Nat × Int32)).length + (fm_T0 (fm_RB g) (fm_RB rw) rn).length := by rw [hT, List.length_append, List.length_append, fm_row_len]; simp
              have hT0 := fm_T0_ok (B := fm_RB g) (r := fm_RB rw) (n := rn) hyes
              rw [hct] at hP hD
              refine fm_wloop5 (nL := 4) (LV := fun (a : Nat) (D : List (Nat × Int32)) (T : List Nat) (kd2 : Nat → Int32) (wd2 : Nat → Int32) => [(0, .ref h), (1, .int (nI (D.length))), (2, .int (nI (a)))]) (WS := fun (a : Nat) (D : List (Nat × Int32)) (T : List Nat) (kd2 : Nat → Int32) (wd2 : Nat → Int32) => [(h, .inr (4, [.int (nI (0)), .ref fa, .int (n0), .ref ga, .int (nI (1)), .int (nI (s0)), .ref ra, .int (nI (0)), .ref ka, .ref wa, .int (nI (D.length + T.length))])), (ga, .inl (cB, 8192, .inl (g))), (ra, .inl (cB, 64, .inl (rw))), (ka, .inl (cI, 1100, .inl (kd2))), (wa, .inl (cI, 1100, .inl (wd2)))]) (I := fun (a : Nat) (D : List (Nat × Int32)) (T : List Nat) (kd2 : Nat → Int32) (wd2 : Nat → Int32) => a ≤ 1000 ∧ fm_RL kd2 wd2 (D ++ fm_c0 T) ∧ fm_ok (fm_RB g) T ∧ fm_okI (fm_RB g) D ∧ D.length + T.length ≤ 66 + a ∧ fm_run (fm_RB g) s0 (1000 - a) D T = fm_run (fm_RB g) s0 1000 [] (fm_T0 (fm_RB g) (fm_RB rw) rn)) (μ := fun (a : Nat) (D : List (Nat × Int32)) (T : List Nat) (kd2 : Nat → Int32) (wd2 : Nat → Int32) => 1000 - a) ?_ 0 ([]) ((fm_T0 (fm_RB g) (fm_RB rw) rn)) kd2 wd2 (⟨by decide, by rw [hT, fm_c0_app]; rw [show fm_c0 [] = [] from rfl, List.append_nil]; exact h7, hT0, (fun q hq => by cases hq), by omega, rfl⟩) hP hD hS ls (lv_sub hl [2, 1, 0] rfl)
              intro a D T kd2 wd2 hI_153 ih_153 H locs ls hP hD hS hl
              have hl : lv_has ls 4 [(0, .ref h), (1, .int (nI (D.length))), (2, .int (nI (a)))] := hl
              have hP : va_P (dC, dI) classes [(h, .inr (4, [.int (nI (0)), .ref fa, .int (n0), .ref ga, .int (nI (1)), .int (nI (s0)), .ref ra, .int (nI (0)), .ref ka, .ref wa, .int (nI (D.length + T.length))])), (ga, .inl (cB, 8192, .inl (g))), (ra, .inl (cB, 64, .inl (rw))), (ka, .inl (cI, 1100, .inl (kd2))), (wa, .inl (cI, 1100, .inl (wd2)))] _ := hP
              have hD : va_D A [(h, .inr (4, [.int (nI (0)), .ref fa, .int (n0), .ref ga, .int (nI (1)), .int (nI (s0)), .ref ra, .int (nI (0)), .ref ka, .ref wa, .int (nI (D.length + T.length))])), (ga, .inl (cB, 8192, .inl (g))), (ra, .inl (cB, 64, .inl (rw))), (ka, .inl (cI, 1100, .inl (kd2))), (wa, .inl (cI, 1100, .inl (wd2)))] := hD
              obtain ⟨ha, hRL, hok, hokI, hsz, hrun⟩ := hI_153
              refine lv_iload_n hx hb d_MO_set_153 rfl (lv_at hl 1 rfl) ?_
              refine lv_iconst (v := nI (1)) hx hb d_MO_set_154 (by decide) ?_
              refine lv_iadd hx hb d_MO_set_155 ?_
              refine fm_tw (z := nI (D.length + 1)) (nI_add _ _) ?_
              refine lv_aload_n hx hb d_MO_set_156 rfl (lv_at hl 0 rfl) ?_
              refine va_get (D := (dC, dI)) (ci := 4) (v := .int (nI (D.length + T.length))) (C := R_MO) (T := F_MO) (N := 11) hx hb ht i_MO hown hK hP 0 rfl rfl 10 (by decide) (ht _ q_3_123) (fun _ h9 => h9) rfl d_MO_set_157 ?_
              refine lv_icmp_ge (tgt := 190) hx hb d_MO_set_160 (by decide) (fun c0 => ?_) (fun c0 => ?_)
              · have c_160 : D.length + T.length ≤ D.length + 1 := (nI_leI (a := D.length + T.length) (b := D.length + 1) (by omega) (by omega)).mp c0
                have hT1 : T.length ≤ 1 := by omega
                rw [fm_run_end hT1] at hrun
                have hset : (fm_set (fm_RB g) s0 (fm_T0 (fm_RB g) (fm_RB rw) rn)) = some (fm_its (D ++ fm_c0 T)) := by unfold fm_set; rw [← hrun]; rfl
                have hok8 := fm_okI_258 hL (fm_okI_app hokI (fm_c0_okI hok))
                generalize hLL : D ++ fm_c0 T = LL at hRL hset hok8
                have hLLn : D.length + T.length = LL.length + (fm_its []).length := by rw [← hLL, List.length_append, fm_c0_len]; rfl
                have hLL8 : LL.length ≤ 1066 := by have := hLLn; simp [fm_its] at this; omega
                refine lv_aload_n hx hb d_MO_set_190 rfl (lv_at hl 0 rfl) ?_
                refine va_get (D := (dC, dI)) (ci := 4) (v := .int (nI (D.length + T.length))) (C := R_MO) (T := F_MO) (N := 11) hx hb ht i_MO hown hK hP 0 rfl rfl 10 (by decide) (ht _ q_3_123) (fun _ h9 => h9) rfl d_MO_set_191 ?_
                refine lv_iconst (v := nI (1)) hx hb d_MO_set_194 (by decide) ?_
                refine lv_isub hx hb d_MO_set_195 ?_
                refine fm_tw (z := (nI LL.length - nI 1)) (by rw [show D.length + T.length = LL.length by have := hLLn; simp [fm_its] at this; exact this]) ?_
                refine lv_istore_n (lv' := [(3, .int (nI LL.length - nI 1)), (0, .ref h), (1, .int (nI (D.length))), (2, .int (nI (a)))]) hx hb d_MO_set_196 rfl hl (by decide) rfl (fun ls hl => ?_)
                refine fm_wloop4 (nL := 4) (LV := fun (P : List (Nat × Int32)) (Q : List (Nat × Int32)) (kd2 : Nat → Int32) (wd2 : Nat → Int32) => [(0, .ref h), (3, .int (nI P.length - nI 1))]) (WS := fun (P : List (Nat × Int32)) (Q : List (Nat × Int32)) (kd2 : Nat → Int32) (wd2 : Nat → Int32) => [(h, .inr (4, [.int (nI (0)), .ref fa, .int (n0), .ref ga, .int (nI (1)), .int (nI (s0)), .ref ra, .int (nI (0)), .ref ka, .ref wa, .int (nI (P.length + (fm_its Q).length))])), (ga, .inl (cB, 8192, .inl (g))), (ra, .inl (cB, 64, .inl (rw))), (ka, .inl (cI, 1100, .inl (kd2))), (wa, .inl (cI, 1100, .inl (wd2)))]) (I := fun (P : List (Nat × Int32)) (Q : List (Nat × Int32)) (kd2 : Nat → Int32) (wd2 : Nat → Int32) => P ++ Q = LL ∧ fm_RL kd2 wd2 (P ++ fm_its Q)) (μ := fun (P : List (Nat × Int32)) (Q : List (Nat × Int32)) (kd2 : Nat → Int32) (wd2 : Nat → Int32) => P.length) ?_ LL ([]) kd2 wd2 (⟨List.append_nil _, by show fm_RL kd2 wd2 (LL ++ []); rw [List.append_nil]; exact hRL⟩) (by rw [hLLn] at hP; exact hP) (by rw [hLLn] at hD; exact hD) hS ls (lv_sub hl [1, 0] rfl)
                intro P Q kd2 wd2 hI_197 ih_197 H locs ls hP hD hS hl
                have hl : lv_has ls 4 [(0, .ref h), (3, .int (nI P.length - nI 1))] := hl
                have hP : va_P (dC, dI) classes [(h, .inr (4, [.int (nI (0)), .ref fa, .int (n0), .ref ga, .int (nI (1)), .int (nI (s0)), .ref ra, .int (nI (0)), .ref ka, .ref wa, .int (nI (P.length + (fm_its Q).length))])), (ga, .inl (cB, 8192, .inl (g))), (ra, .inl (cB, 64, .inl (rw))), (ka, .inl (cI, 1100, .inl (kd2))), (wa, .inl (cI, 1100, .inl (wd2)))] _ := hP
                have hD : va_D A [(h, .inr (4, [.int (nI (0)), .ref fa, .int (n0), .ref ga, .int (nI (1)), .int (nI (s0)), .ref ra, .int (nI (0)), .ref ka, .ref wa, .int (nI (P.length + (fm_its Q).length))])), (ga, .inl (cB, 8192, .inl (g))), (ra, .inl (cB, 64, .inl (rw))), (ka, .inl (cI, 1100, .inl (kd2))), (wa, .inl (cI, 1100, .inl (wd2)))] := hD
                obtain ⟨hPQ, hRL⟩ := hI_197
                refine lv_iload_n hx hb d_MO_set_197 rfl (lv_at hl 1 rfl) ?_
                refine lv_if_lt (tgt := 224) hx hb d_MO_set_198 (by decide) (fun c0 => ?_) (fun c0 => ?_)
                · have c_198 := c0
                  have hP0 : P = [] := by
                    rcases Nat.eq_zero_or_pos P.length with h | h
                    · exact List.length_eq_zero_iff.mp h
                    · exact absurd (show nI (P.length - 1) < 0 by rw [← nI_pred (P.length - 1), show P.length - 1 + 1 = P.length by omega]; exact c_198) (nI_pos (by have h9 := congrArg List.length hPQ; rw [List.length_append] at h9; omega))
                  subst hP0
                  have hQ : Q = LL := hPQ
                  rw [hQ] at hRL hP hD
                  refine lv_aload_n hx hb d_MO_set_224 rfl (lv_at hl 0 rfl) ?_
                  refine va_get (D := (dC, dI)) (ci := 4) (v := .int (nI ((([] : List (Nat × Int32))).length + (fm_its LL).length))) (C := R_MO) (T := F_MO) (N := 11) hx hb ht i_MO hown hK hP 0 rfl rfl 10 (by decide) (ht _ q_3_123) (fun _ h9 => h9) rfl d_MO_set_225 ?_
                  exact W.iret hx hb hr (fun t ht hW => ⟨(kd2, wd2), (fun L hL9 => by rw [hset] at hL9; cases hL9; exact hRL), congrArg (fun z => Outcome.returned (some (Value.int z))) (by rw [hset]; show nI (0 + (fm_its LL).length) = nI (fm_its LL).length; rw [Nat.zero_add]), by rw [ht]; exact show va_P (dC, dI) classes [(h, .inr (4, [.int (nI (0)), .ref fa, .int (n0), .ref ga, .int (nI (1)), .int (nI (s0)), .ref ra, .int (nI (0)), .ref ka, .ref wa, .int (nI (fm_sN (fm_set (fm_RB g) s0 (fm_T0 (fm_RB g) (fm_RB rw) rn))))])), (ga, .inl (cB, 8192, .inl (g))), (ra, .inl (cB, 64, .inl (rw))), (ka, .inl (cI, 1100, .inl (kd2))), (wa, .inl (cI, 1100, .inl (wd2)))] _ from (by rw [hset]; show va_P (dC, dI) classes [(h, .inr (4, [.int (nI (0)), .ref fa, .int (n0), .ref ga, .int (nI (1)), .int (nI (s0)), .ref ra, .int (nI (0)), .ref ka, .ref wa, .int (nI ((fm_its LL).length))])), (ga, .inl (cB, 8192, .inl (g))), (ra, .inl (cB, 64, .inl (rw))), (ka, .inl (cI, 1100, .inl (kd2))), (wa, .inl (cI, 1100, .inl (wd2)))] _; rw [← Nat.zero_add (fm_its LL).length]; exact hP), hS.F ht⟩) hS.2.2 d_MO_set_228
                · have c_198 := c0
                  have hpos : 0 < P.length := by
                    rcases Nat.eq_zero_or_pos P.length with h | h
                    · exact absurd (by rw [h]; decide) c_198
                    · exact h
                  obtain ⟨P2, q, rfl⟩ := fm_snoc hpos
                  have hkq := fm_RL_last hRL
                  have hq8 := hok8 q (by rw [← hPQ]; simp)
                  have hPl : (P2 ++ [q]).length = P2.length + 1 := by simp
                  have h9 := congrArg List.length hPQ
                  rw [List.length_append, hPl] at h9
                  have hitsl : (fm_its Q).length ≤ Q.length := List.length_filter_le _ _
                  rw [hPl] at hP hD
                  have hl : lv_has ls 4 [(0, .ref h), (3, .int (nI (P2.length)))] := by rw [show ((nI ((P2 ++ [q])).length - nI 1) : Int32) = nI (P2.length) from by rw [hPl]; exact nI_pred _] at hl; exact hl
                  refine lv_aload_n hx hb d_MO_set_201 rfl (lv_at hl 0 rfl) ?_
                  refine va_get (D := (dC, dI)) (ci := 4) (v := .ref ka) (C := R_MO) (T := F_MO) (N := 11) hx hb ht i_MO hown hK hP 0 rfl rfl 8 (by decide) (ht _ q_3_121) (fun _ h9 => h9) rfl d_MO_set_202 ?_
                  refine lv_iload_n hx hb d_MO_set_205 rfl (lv_at hl 1 rfl) ?_
                  refine va_iald hx hb hK hP 3 1 rfl rfl (vp_in_nI (by omega) (by omega)) d_MO_set_206 ?_
                  refine fm_tw (z := kd2 (P2.length)) (by rw [nI_clamp (by omega)]) ?_
                  refine fm_tw (z := nI (q.1)) (hkq) ?_
                  refine lv_sipush (v := nI (256)) hx hb d_MO_set_207 (by decide) ?_
                  refine lv_icmp_ne (tgt := 218) hx hb d_MO_set_210 (by decide) (fun c0 => ?_) (fun c0 => ?_)
                  · have c_210 : ¬ (q.1 = 256) := fun z => c0 ((nI_eq (a := q.1) (b := 256) (by omega) (by omega)).mpr z)
                    have hq256 : ¬ q.1 = 256 := c_210
                    rw [show P2.length + 1 + (fm_its Q).length = P2.length + (fm_its (q :: Q)).length by rw [fm_its_c hq256]; simp; omega] at hP hD
                    refine lv_iinc (v := (nI P2.length - nI 1)) (lv' := [(3, .int (nI P2.length - nI 1)), (0, .ref h)]) hx hb d_MO_set_218 hl (k := 1) rfl (fm_m1 _) (by decide) rfl (fun ls hl => ?_)
                    refine lv_goto (tgt := 197) hx hb d_MO_set_221 (by decide) ?_
                    exact ih_197 P2 (q :: Q) kd2 wd2 H locs ls (by first | exact ⟨by rw [← hPQ, List.append_assoc]; rfl, by rw [fm_its_c hq256, show P2 ++ q :: fm_its Q = (P2 ++ [q]) ++ fm_its Q by simp]; exact hRL⟩ | exact ⟨by rw [← hPQ, List.append_assoc]; rfl, by rw [fm_its_d hq256]; exact fm_RL_drop hRL⟩) (by simp) (by first | exact hP | (rw [show P2.length + (fm_its (q :: Q)).length = P2.length + 1 + (fm_its Q).length - 1 by rw [fm_its_d hq256]; omega]; exact hP)) (by first | exact hD | (rw [show P2.length + (fm_its (q :: Q)).length = P2.length + 1 + (fm_its Q).length - 1 by rw [fm_its_d hq256]; omega]; exact hD)) hS (lv_sub hl [1, 0] rfl)
                  · have c_210 : q.1 = 256 := (nI_eq (a := q.1) (b := 256) (by omega) (by omega)).mp c0
                    have hq256 : q.1 = 256 := c_210
                    refine lv_aload_n hx hb d_MO_set_213 rfl (lv_at hl 0 rfl) ?_
                    refine lv_iload_n hx hb d_MO_set_214 rfl (lv_at hl 1 rfl) ?_
                    refine fm_wv S (c_MO_remove l dC dI h (nI (0)) fa n0 ga (nI (1)) (nI (s0)) ra (nI (0)) ka wa (P2.length + 1 + (fm_its Q).length) cI kd2 wd2 P2.length (by omega) (by omega)) rfl rfl k_MO_remove q_4_50 ⟨Nat.le_of_ble_eq_true rfl, Nat.le_of_ble_eq_true rfl⟩ hP hD hS (hK.sub [1] rfl) [0, 3, 4] (by decide) rfl 0 rfl rfl rfl hl.1 rfl (Nat.le_of_ble_eq_true rfl) ⟨Nat.zero_le _, Nat.zero_le _⟩ d_MO_set_215 [(h, .inr (4, [.int (nI (0)), .ref fa, .int (n0), .ref ga, .int (nI (1)), .int (nI (s0)), .ref ra, .int (nI (0)), .ref ka, .ref wa, .int (nI ((P2.length + 1 + (fm_its Q).length) - 1))])), (ga, .inl (cB, 8192, .inl (g))), (ra, .inl (cB, 64, .inl (rw))), (ka, .inl (cI, 1100, .inl (fm_rm kd2 P2.length ((P2.length + 1 + (fm_its Q).length) - 1)))), (wa, .inl (cI, 1100, .inl (fm_rm wd2 P2.length ((P2.length + 1 + (fm_its Q).length) - 1))))] [1, 2] rfl rfl (show ∀ i, i < 5 → i ∈ ([0, 3, 4] : List Nat) ∨ i ∈ ([1, 2] : List Nat) by decide) (by decide) rfl (fun H locs hP hD hS => ?_)
                    have hP : va_P (dC, dI) classes [(h, .inr (4, [.int (nI (0)), .ref fa, .int (n0), .ref ga, .int (nI (1)), .int (nI (s0)), .ref ra, .int (nI (0)), .ref ka, .ref wa, .int (nI ((P2.length + 1 + (fm_its Q).length) - 1))])), (ga, .inl (cB, 8192, .inl (g))), (ra, .inl (cB, 64, .inl (rw))), (ka, .inl (cI, 1100, .inl (fm_rm kd2 P2.length ((P2.length + 1 + (fm_its Q).length) - 1)))), (wa, .inl (cI, 1100, .inl (fm_rm wd2 P2.length ((P2.length + 1 + (fm_its Q).length) - 1))))] _ := hP
                    have hD : va_D A [(h, .inr (4, [.int (nI (0)), .ref fa, .int (n0), .ref ga, .int (nI (1)), .int (nI (s0)), .ref ra, .int (nI (0)), .ref ka, .ref wa, .int (nI ((P2.length + 1 + (fm_its Q).length) - 1))])), (ga, .inl (cB, 8192, .inl (g))), (ra, .inl (cB, 64, .inl (rw))), (ka, .inl (cI, 1100, .inl (fm_rm kd2 P2.length ((P2.length + 1 + (fm_its Q).length) - 1)))), (wa, .inl (cI, 1100, .inl (fm_rm wd2 P2.length ((P2.length + 1 + (fm_its Q).length) - 1))))] := hD
                    refine lv_iinc (v := (nI P2.length - nI 1)) (lv' := [(3, .int (nI P2.length - nI 1)), (0, .ref h)]) hx hb d_MO_set_218 hl (k := 1) rfl (fm_m1 _) (by decide) rfl (fun ls hl => ?_)
                    refine lv_goto (tgt := 197) hx hb d_MO_set_221 (by decide) ?_
                    exact ih_197 P2 (q :: Q) (fm_rm kd2 P2.length ((P2.length + 1 + (fm_its Q).length) - 1)) (fm_rm wd2 P2.length ((P2.length + 1 + (fm_its Q).length) - 1)) H locs ls (by first | exact ⟨by rw [← hPQ, List.append_assoc]; rfl, by rw [fm_its_c hq256, show P2 ++ q :: fm_its Q = (P2 ++ [q]) ++ fm_its Q by simp]; exact hRL⟩ | exact ⟨by rw [← hPQ, List.append_assoc]; rfl, by rw [fm_its_d hq256]; exact fm_RL_drop hRL⟩) (by simp) (by first | exact hP | (rw [show P2.length + (fm_its (q :: Q)).length = P2.length + 1 + (fm_its Q).length - 1 by rw [fm_its_d hq256]; omega]; exact hP)) (by first | exact hD | (rw [show P2.length + (fm_its (q :: Q)).length = P2.length + 1 + (fm_its Q).length - 1 by rw [fm_its_d hq256]; omega]; exact hD)) hS (lv_sub hl [1, 0] rfl)
              · have c_160 : ¬ (D.length + T.length ≤ D.length + 1) := fun z => c0 ((nI_leI (a := D.length + T.length) (b := D.length + 1) (by omega) (by omega)).mpr z)
                obtain ⟨x, r, R, rfl⟩ := fm_two (T := T) (by omega)
                obtain ⟨hst1, hst2, hst3⟩ := fm_stp_ok hV (s := s0) (D := D) hok
                refine lv_iload_n hx hb d_MO_set_163 rfl (lv_at hl 2 rfl) ?_
                refine lv_sipush (v := nI (1000)) hx hb d_MO_set_164 (by decide) ?_
                refine lv_icmp_ne (tgt := 178) hx hb d_MO_set_167 (by decide) (fun c0 => ?_) (fun c0 => ?_)
                · have c_167 : ¬ (a = 1000) := fun z => c0 ((nI_eq (a := a) (b := 1000) (by omega) (by omega)).mpr z)
                  refine lv_iinc (v := nI (a + 1)) (lv' := [(2, .int (nI (a + 1))), (0, .ref h), (1, .int (nI (D.length)))]) hx hb d_MO_set_178 hl (k := 2) rfl (nI_1 _) (by decide) rfl (fun ls hl => ?_)
                  refine lv_aload_n hx hb d_MO_set_181 rfl (lv_at hl 1 rfl) ?_
                  refine lv_iload_n hx hb d_MO_set_182 rfl (lv_at hl 2 rfl) ?_
                  refine fm_xv S (c_MO_step l dC dI h (nI (0)) fa n0 ga (nI (1)) ra (nI (0)) ka wa (D.length + ((x :: r :: R)).length) s0 cB cI g kd2 wd2 D x r R (hV) (hs) (hRL) (by simp) (by simp only [List.length_cons] at *; omega) (hok)) rfl rfl k_MO_step q_4_46 ⟨Nat.le_of_ble_eq_true rfl, Nat.le_of_ble_eq_true rfl⟩ hP hD hS (hK.sub [0, 1] rfl) [0, 1, 3, 4] (by decide) rfl 0 rfl rfl rfl hl.1 rfl (Nat.le_of_ble_eq_true rfl) ⟨Nat.zero_le _, Nat.zero_le _⟩ d_MO_set_183 (fun u => [(h, .inr (4, [.int (nI (0)), .ref fa, .int (n0), .ref ga, .int (nI (1)), .int (nI (s0)), .ref ra, .int (nI (0)), .ref ka, .ref wa, .int (nI ((fm_stp (fm_RB g) s0 D (x :: r :: R)).1.length + (fm_stp (fm_RB g) s0 D (x :: r :: R)).2.length))])), (ga, .inl (cB, 8192, .inl (g))), (ra, .inl (cB, 64, .inl (rw))), (ka, .inl (cI, 1100, .inl (u.1))), (wa, .inl (cI, 1100, .inl (u.2)))]) [2] (fun _ => rfl) (fun _ => rfl) (fun _ => show ∀ i, i < 5 → i ∈ ([0, 1, 3, 4] : List Nat) ∨ i ∈ ([2] : List Nat) by decide) (by decide) (fun _ => rfl) (fun u hu H locs hP hD hS => ?_)
                  obtain ⟨kd3, wd3⟩ := u
                  have hu_183 : fm_RL kd3 wd3 ((fm_stp (fm_RB g) s0 D (x :: r :: R)).1 ++ fm_c0 (fm_stp (fm_RB g) s0 D (x :: r :: R)).2) := hu
                  have hP : va_P (dC, dI) classes [(h, .inr (4, [.int (nI (0)), .ref fa, .int (n0), .ref ga, .int (nI (1)), .int (nI (s0)), .ref ra, .int (nI (0)), .ref ka, .ref wa, .int (nI ((fm_stp (fm_RB g) s0 D (x :: r :: R)).1.length + (fm_stp (fm_RB g) s0 D (x :: r :: R)).2.length))])), (ga, .inl (cB, 8192, .inl (g))), (ra, .inl (cB, 64, .inl (rw))), (ka, .inl (cI, 1100, .inl (kd3))), (wa, .inl (cI, 1100, .inl (wd3)))] _ := hP
                  have hD : va_D A [(h, .inr (4, [.int (nI (0)), .ref fa, .int (n0), .ref ga, .int (nI (1)), .int (nI (s0)), .ref ra, .int (nI (0)), .ref ka, .ref wa, .int (nI ((fm_stp (fm_RB g) s0 D (x :: r :: R)).1.length + (fm_stp (fm_RB g) s0 D (x :: r :: R)).2.length))])), (ga, .inl (cB, 8192, .inl (g))), (ra, .inl (cB, 64, .inl (rw))), (ka, .inl (cI, 1100, .inl (kd3))), (wa, .inl (cI, 1100, .inl (wd3)))] := hD
                  refine lv_istore_n (lv' := [(1, .int (nI ((fm_stp (fm_RB g) s0 D (x :: r :: R)).1.length))), (2, .int (nI (a + 1))), (0, .ref h)]) hx hb d_MO_set_186 rfl hl (by decide) rfl (fun ls hl => ?_)
                  refine lv_goto (tgt := 153) hx hb d_MO_set_187 (by decide) ?_
                  exact ih_153 (a + 1) ((fm_stp (fm_RB g) s0 D (x :: r :: R)).1) ((fm_stp (fm_RB g) s0 D (x :: r :: R)).2) kd3 wd3 H locs ls (⟨by omega, hu_183, hst1, fm_stp_okI hV hokI hok, by simp only [List.length_cons] at *; omega, by rw [← fm_run_s (by simp) (by omega)]; exact hrun⟩) (by omega) hP hD hS (lv_sub hl [2, 0, 1] rfl)
                · have c_167 : a = 1000 := (nI_eq (a := a) (b := 1000) (by omega) (by omega)).mp c0
                  rw [c_167, fm_run_0 (by simp)] at hrun
                  have hset : (fm_set (fm_RB g) s0 (fm_T0 (fm_RB g) (fm_RB rw) rn)) = none := by unfold fm_set; rw [← hrun]; rfl
                  refine lv_aload_n hx hb d_MO_set_170 rfl (lv_at hl 0 rfl) ?_
                  refine lv_iconst (v := nI (0)) hx hb d_MO_set_171 (by decide) ?_
                  refine va_put (D := (dC, dI)) (ci := 4) (v := .int (nI (0))) (ty := .int) (C := R_MO) (T := F_MO) (N := 11) hx hb ht i_MO t_MO t_MO_ok n_MO hown hK hP hD hS 0 rfl rfl 10 (by decide) (ht _ q_3_123) (fun _ h9 => h9) rfl (by decide +kernel) (rfl) (rfl) (Nat.le_of_ble_eq_true rfl) d_MO_set_172 (fun H locs hP hD hS => ?_)
                  have hP : va_P (dC, dI) classes [(h, .inr (4, [.int (nI (0)), .ref fa, .int (n0), .ref ga, .int (nI (1)), .int (nI (s0)), .ref ra, .int (nI (0)), .ref ka, .ref wa, .int (nI (0))])), (ga, .inl (cB, 8192, .inl (g))), (ra, .inl (cB, 64, .inl (rw))), (ka, .inl (cI, 1100, .inl (kd2))), (wa, .inl (cI, 1100, .inl (wd2)))] _ := hP
                  have hD : va_D A [(h, .inr (4, [.int (nI (0)), .ref fa, .int (n0), .ref ga, .int (nI (1)), .int (nI (s0)), .ref ra, .int (nI (0)), .ref ka, .ref wa, .int (nI (0))])), (ga, .inl (cB, 8192, .inl (g))), (ra, .inl (cB, 64, .inl (rw))), (ka, .inl (cI, 1100, .inl (kd2))), (wa, .inl (cI, 1100, .inl (wd2)))] := hD
                  refine lv_bipush (v := ((-2))) hx hb d_MO_set_175 (by decide) ?_
                  exact W.iret hx hb hr (fun t ht hW => ⟨(kd2, wd2), (fun L hL9 => by rw [hset] at hL9; cases hL9), congrArg (fun z => Outcome.returned (some (Value.int z))) (by rw [hset]; rfl), by rw [ht]; exact show va_P (dC, dI) classes [(h, .inr (4, [.int (nI (0)), .ref fa, .int (n0), .ref ga, .int (nI (1)), .int (nI (s0)), .ref ra, .int (nI (0)), .ref ka, .ref wa, .int (nI (fm_sN (fm_set (fm_RB g) s0 (fm_T0 (fm_RB g) (fm_RB rw) rn))))])), (ga, .inl (cB, 8192, .inl (g))), (ra, .inl (cB, 64, .inl (rw))), (ka, .inl (cI, 1100, .inl (kd2))), (wa, .inl (cI, 1100, .inl (wd2)))] _ from (by rw [hset]; exact hP), hS.F ht⟩) hS.2.2 d_MO_set_177
            · have c_129 := c0
              have hE2 : (fm_E2 (fm_RB g)) = [256] := by unfold fm_E2; rw [if_neg c_129]
              refine lv_aload_n hx hb d_MO_set_132 rfl (lv_at hl 0 rfl) ?_
              refine lv_aload_n hx hb d_MO_set_133 rfl (lv_at hl 0 rfl) ?_
              refine va_get (D := (dC, dI)) (ci := 4) (v := .int (nI ((fm_E1 (fm_RB g)).length + rn))) (C := R_MO) (T := F_MO) (N := 11) hx hb ht i_MO hown hK hP 0 rfl rfl 10 (by decide) (ht _ q_3_123) (fun _ h9 => h9) rfl d_MO_set_134 ?_
              refine lv_sipush (v := nI (256)) hx hb d_MO_set_137 (by decide) ?_
              refine lv_iconst (v := nI (0)) hx hb d_MO_set_140 (by decide) ?_
              refine fm_wv S (c_MO_insert l dC dI h (nI (0)) fa n0 ga (nI (1)) (nI (s0)) ra (nI (rn)) ka wa ((fm_E1 (fm_RB g)).length + rn) cI kd2 wd2 ((fm_E1 (fm_RB g)).length + rn) (nI (256)) (nI (0)) (by omega) (by omega)) rfl rfl k_MO_insert q_4_42 ⟨Nat.le_of_ble_eq_true rfl, Nat.le_of_ble_eq_true rfl⟩ hP hD hS (hK.sub [1] rfl) [0, 3, 4] (by decide) rfl 0 rfl rfl rfl hl.1 rfl (Nat.le_of_ble_eq_true rfl) ⟨Nat.zero_le _, Nat.zero_le _⟩ d_MO_set_141 [(h, .inr (4, [.int (nI (0)), .ref fa, .int (n0), .ref ga, .int (nI (1)), .int (nI (s0)), .ref ra, .int (nI (rn)), .ref ka, .ref wa, .int (nI (((fm_E1 (fm_RB g)).length + rn) + 1))])), (ga, .inl (cB, 8192, .inl (g))), (ra, .inl (cB, 64, .inl (rw))), (ka, .inl (cI, 1100, .inl (fm_ins kd2 ((fm_E1 (fm_RB g)).length + rn) ((fm_E1 (fm_RB g)).length + rn) (nI (256))))), (wa, .inl (cI, 1100, .inl (fm_ins wd2 ((fm_E1 (fm_RB g)).length + rn) ((fm_E1 (fm_RB g)).length + rn) (nI (0)))))] [1, 2] rfl rfl (show ∀ i, i < 5 → i ∈ ([0, 3, 4] : List Nat) ∨ i ∈ ([1, 2] : List Nat) by decide) (by decide) rfl (fun H locs hP hD hS => ?_)
              have hP : va_P (dC, dI) classes [(h, .inr (4, [.int (nI (0)), .ref fa, .int (n0), .ref ga, .int (nI (1)), .int (nI (s0)), .ref ra, .int (nI (rn)), .ref ka, .ref wa, .int (nI (((fm_E1 (fm_RB g)).length + rn) + 1))])), (ga, .inl (cB, 8192, .inl (g))), (ra, .inl (cB, 64, .inl (rw))), (ka, .inl (cI, 1100, .inl (fm_ins kd2 ((fm_E1 (fm_RB g)).length + rn) ((fm_E1 (fm_RB g)).length + rn) (nI (256))))), (wa, .inl (cI, 1100, .inl (fm_ins wd2 ((fm_E1 (fm_RB g)).length + rn) ((fm_E1 (fm_RB g)).length + rn) (nI (0)))))] _ := hP
              have hD : va_D A [(h, .inr (4, [.int (nI (0)), .ref fa, .int (n0), .ref ga, .int (nI (1)), .int (nI (s0)), .ref ra, .int (nI (rn)), .ref ka, .ref wa, .int (nI (((fm_E1 (fm_RB g)).length + rn) + 1))])), (ga, .inl (cB, 8192, .inl (g))), (ra, .inl (cB, 64, .inl (rw))), (ka, .inl (cI, 1100, .inl (fm_ins kd2 ((fm_E1 (fm_RB g)).length + rn) ((fm_E1 (fm_RB g)).length + rn) (nI (256))))), (wa, .inl (cI, 1100, .inl (fm_ins wd2 ((fm_E1 (fm_RB g)).length + rn) ((fm_E1 (fm_RB g)).length + rn) (nI (0)))))] := hD
              refine lv_aload_n hx hb d_MO_set_144 rfl (lv_at hl 0 rfl) ?_
              refine lv_iconst (v := nI (0)) hx hb d_MO_set_145 (by decide) ?_
              refine va_put (D := (dC, dI)) (ci := 4) (v := .int (nI (0))) (ty := .int) (C := R_MO) (T := F_MO) (N := 11) hx hb ht i_MO t_MO t_MO_ok n_MO hown hK hP hD hS 0 rfl rfl 7 (by decide) (ht _ q_3_120) (fun _ h9 => h9) rfl (by decide +kernel) (rfl) (rfl) (Nat.le_of_ble_eq_true rfl) d_MO_set_146 (fun H locs hP hD hS => ?_)
              have hP : va_P (dC, dI) classes [(h, .inr (4, [.int (nI (0)), .ref fa, .int (n0), .ref ga, .int (nI (1)), .int (nI (s0)), .ref ra, .int (nI (0)), .ref ka, .ref wa, .int (nI (((fm_E1 (fm_RB g)).length + rn) + 1))])), (ga, .inl (cB, 8192, .inl (g))), (ra, .inl (cB, 64, .inl (rw))), (ka, .inl (cI, 1100, .inl (fm_ins kd2 ((fm_E1 (fm_RB g)).length + rn) ((fm_E1 (fm_RB g)).length + rn) (nI (256))))), (wa, .inl (cI, 1100, .inl (fm_ins wd2 ((fm_E1 (fm_RB g)).length + rn) ((fm_E1 (fm_RB g)).length + rn) (nI (0)))))] _ := hP
              have hD : va_D A [(h, .inr (4, [.int (nI (0)), .ref fa, .int (n0), .ref ga, .int (nI (1)), .int (nI (s0)), .ref ra, .int (nI (0)), .ref ka, .ref wa, .int (nI (((fm_E1 (fm_RB g)).length + rn) + 1))])), (ga, .inl (cB, 8192, .inl (g))), (ra, .inl (cB, 64, .inl (rw))), (ka, .inl (cI, 1100, .inl (fm_ins kd2 ((fm_E1 (fm_RB g)).length + rn) ((fm_E1 (fm_RB g)).length + rn) (nI (256))))), (wa, .inl (cI, 1100, .inl (fm_ins wd2 ((fm_E1 (fm_RB g)).length + rn) ((fm_E1 (fm_RB g)).length + rn) (nI (0)))))] := hD
              refine lv_iconst (v := nI (0)) hx hb d_MO_set_149 (by decide) ?_
              refine lv_istore_n (lv' := [(1, .int (nI (0))), (0, .ref h)]) hx hb d_MO_set_150 rfl hl (by decide) rfl (fun ls hl => ?_)
              refine lv_iconst (v := nI (0)) hx hb d_MO_set_151 (by decide) ?_
              refine lv_istore_n (lv' := [(2, .int (nI (0))), (1, .int (nI (0))), (0, .ref h)]) hx hb d_MO_set_152 rfl hl (by decide) rfl (fun ls hl => ?_)
              have hT : fm_T0 (fm_RB g) (fm_RB rw) rn = ((fm_E1 (fm_RB g)) ++ fm_row (fm_RB rw) rn) ++ (fm_E2 (fm_RB g)) := rfl
              rw [hE2] at hT
              have h7 := fm_RL_e hRL 256
              rw [hlen] at h7
              have hct : (fm_E1 (fm_RB g)).length + rn + 1 = ([] : List (Nat × Int32)).length + (fm_T0 (fm_RB g) (fm_RB rw) rn).length := by rw [hT, List.length_append, List.length_append, fm_row_len]; simp
              have hT0 := fm_T0_ok (B := fm_RB g) (r := fm_RB rw) (n := rn) hyes
              rw [hct] at hP hD
              refine fm_wloop5 (nL := 4) (LV := fun (a : Nat) (D : List (Nat × Int32)) (T : List Nat) (kd2 : Nat → Int32) (wd2 : Nat → Int32) => [(0, .ref h), (1, .int (nI (D.length))), (2, .int (nI (a)))]) (WS := fun (a : Nat) (D : List (Nat × Int32)) (T : List Nat) (kd2 : Nat → Int32) (wd2 : Nat → Int32) => [(h, .inr (4, [.int (nI (0)), .ref fa, .int (n0), .ref ga, .int (nI (1)), .int (nI (s0)), .ref ra, .int (nI (0)), .ref ka, .ref wa, .int (nI (D.length + T.length))])), (ga, .inl (cB, 8192, .inl (g))), (ra, .inl (cB, 64, .inl (rw))), (ka, .inl (cI, 1100, .inl (kd2))), (wa, .inl (cI, 1100, .inl (wd2)))]) (I := fun (a : Nat) (D : List (Nat × Int32)) (T : List Nat) (kd2 : Nat → Int32) (wd2 : Nat → Int32) => a ≤ 1000 ∧ fm_RL kd2 wd2 (D ++ fm_c0 T) ∧ fm_ok (fm_RB g) T ∧ fm_okI (fm_RB g) D ∧ D.length + T.length ≤ 66 + a ∧ fm_run (fm_RB g) s0 (1000 - a) D T = fm_run (fm_RB g) s0 1000 [] (fm_T0 (fm_RB g) (fm_RB rw) rn)) (μ := fun (a : Nat) (D : List (Nat × Int32)) (T : List Nat) (kd2 : Nat → Int32) (wd2 : Nat → Int32) => 1000 - a) ?_ 0 ([]) ((fm_T0 (fm_RB g) (fm_RB rw) rn)) (fm_ins kd2 ((fm_E1 (fm_RB g)).length + rn) ((fm_E1 (fm_RB g)).length + rn) (nI (256))) (fm_ins wd2 ((fm_E1 (fm_RB g)).length + rn) ((fm_E1 (fm_RB g)).length + rn) (nI (0))) (⟨by decide, by rw [hT, fm_c0_app]; exact h7, hT0, (fun q hq => by cases hq), by omega, rfl⟩) hP hD hS ls (lv_sub hl [2, 1, 0] rfl)
              intro a D T kd2 wd2 hI_153 ih_153 H locs ls hP hD hS hl
              have hl : lv_has ls 4 [(0, .ref h), (1, .int (nI (D.length))), (2, .int (nI (a)))] := hl
              have hP : va_P (dC, dI) classes [(h, .inr (4, [.int (nI (0)), .ref fa, .int (n0), .ref ga, .int (nI (1)), .int (nI (s0)), .ref ra, .int (nI (0)), .ref ka, .ref wa, .int (nI (D.length + T.length))])), (ga, .inl (cB, 8192, .inl (g))), (ra, .inl (cB, 64, .inl (rw))), (ka, .inl (cI, 1100, .inl (kd2))), (wa, .inl (cI, 1100, .inl (wd2)))] _ := hP
              have hD : va_D A [(h, .inr (4, [.int (nI (0)), .ref fa, .int (n0), .ref ga, .int (nI (1)), .int (nI (s0)), .ref ra, .int (nI (0)), .ref ka, .ref wa, .int (nI (D.length + T.length))])), (ga, .inl (cB, 8192, .inl (g))), (ra, .inl (cB, 64, .inl (rw))), (ka, .inl (cI, 1100, .inl (kd2))), (wa, .inl (cI, 1100, .inl (wd2)))] := hD
              obtain ⟨ha, hRL, hok, hokI, hsz, hrun⟩ := hI_153
              refine lv_iload_n hx hb d_MO_set_153 rfl (lv_at hl 1 rfl) ?_
              refine lv_iconst (v := nI (1)) hx hb d_MO_set_154 (by decide) ?_
              refine lv_iadd hx hb d_MO_set_155 ?_
              refine fm_tw (z := nI (D.length + 1)) (nI_add _ _) ?_
              refine lv_aload_n hx hb d_MO_set_156 rfl (lv_at hl 0 rfl) ?_
              refine va_get (D := (dC, dI)) (ci := 4) (v := .int (nI (D.length + T.length))) (C := R_MO) (T := F_MO) (N := 11) hx hb ht i_MO hown hK hP 0 rfl rfl 10 (by decide) (ht _ q_3_123) (fun _ h9 => h9) rfl d_MO_set_157 ?_
              refine lv_icmp_ge (tgt := 190) hx hb d_MO_set_160 (by decide) (fun c0 => ?_) (fun c0 => ?_)
              · have c_160 : D.length + T.length ≤ D.length + 1 := (nI_leI (a := D.length + T.length) (b := D.length + 1) (by omega) (by omega)).mp c0
                have hT1 : T.length ≤ 1 := by omega
                rw [fm_run_end hT1] at hrun
                have hset : (fm_set (fm_RB g) s0 (fm_T0 (fm_RB g) (fm_RB rw) rn)) = some (fm_its (D ++ fm_c0 T)) := by unfold fm_set; rw [← hrun]; rfl
                have hok8 := fm_okI_258 hL (fm_okI_app hokI (fm_c0_okI hok))
                generalize hLL : D ++ fm_c0 T = LL at hRL hset hok8
                have hLLn : D.length + T.length = LL.length + (fm_its []).length := by rw [← hLL, List.length_append, fm_c0_len]; rfl
                have hLL8 : LL.length ≤ 1066 := by have := hLLn; simp [fm_its] at this; omega
                refine lv_aload_n hx hb d_MO_set_190 rfl (lv_at hl 0 rfl) ?_
                refine va_get (D := (dC, dI)) (ci := 4) (v := .int (nI (D.length + T.length))) (C := R_MO) (T := F_MO) (N := 11) hx hb ht i_MO hown hK hP 0 rfl rfl 10 (by decide) (ht _ q_3_123) (fun _ h9 => h9) rfl d_MO_set_191 ?_
                refine lv_iconst (v := nI (1)) hx hb d_MO_set_194 (by decide) ?_
                refine lv_isub hx hb d_MO_set_195 ?_
                refine fm_tw (z := (nI LL.length - nI 1)) (by rw [show D.length + T.length = LL.length by have := hLLn; simp [fm_its] at this; exact this]) ?_
                refine lv_istore_n (lv' := [(3, .int (nI LL.length - nI 1)), (0, .ref h), (1, .int (nI (D.length))), (2, .int (nI (a)))]) hx hb d_MO_set_196 rfl hl (by decide) rfl (fun ls hl => ?_)
                refine fm_wloop4 (nL := 4) (LV := fun (P : List (Nat × Int32)) (Q : List (Nat × Int32)) (kd2 : Nat → Int32) (wd2 : Nat → Int32) => [(0, .ref h), (3, .int (nI P.length - nI 1))]) (WS := fun (P : List (Nat × Int32)) (Q : List (Nat × Int32)) (kd2 : Nat → Int32) (wd2 : Nat → Int32) => [(h, .inr (4, [.int (nI (0)), .ref fa, .int (n0), .ref ga, .int (nI (1)), .int (nI (s0)), .ref ra, .int (nI (0)), .ref ka, .ref wa, .int (nI (P.length + (fm_its Q).length))])), (ga, .inl (cB, 8192, .inl (g))), (ra, .inl (cB, 64, .inl (rw))), (ka, .inl (cI, 1100, .inl (kd2))), (wa, .inl (cI, 1100, .inl (wd2)))]) (I := fun (P : List (Nat × Int32)) (Q : List (Nat × Int32)) (kd2 : Nat → Int32) (wd2 : Nat → Int32) => P ++ Q = LL ∧ fm_RL kd2 wd2 (P ++ fm_its Q)) (μ := fun (P : List (Nat × Int32)) (Q : List (Nat × Int32)) (kd2 : Nat → Int32) (wd2 : Nat → Int32) => P.length) ?_ LL ([]) kd2 wd2 (⟨List.append_nil _, by show fm_RL kd2 wd2 (LL ++ []); rw [List.append_nil]; exact hRL⟩) (by rw [hLLn] at hP; exact hP) (by rw [hLLn] at hD; exact hD) hS ls (lv_sub hl [1, 0] rfl)
                intro P Q kd2 wd2 hI_197 ih_197 H locs ls hP hD hS hl
                have hl : lv_has ls 4 [(0, .ref h), (3, .int (nI P.length - nI 1))] := hl
                have hP : va_P (dC, dI) classes [(h, .inr (4, [.int (nI (0)), .ref fa, .int (n0), .ref ga, .int (nI (1)), .int (nI (s0)), .ref ra, .int (nI (0)), .ref ka, .ref wa, .int (nI (P.length + (fm_its Q).length))])), (ga, .inl (cB, 8192, .inl (g))), (ra, .inl (cB, 64, .inl (rw))), (ka, .inl (cI, 1100, .inl (kd2))), (wa, .inl (cI, 1100, .inl (wd2)))] _ := hP
                have hD : va_D A [(h, .inr (4, [.int (nI (0)), .ref fa, .int (n0), .ref ga, .int (nI (1)), .int (nI (s0)), .ref ra, .int (nI (0)), .ref ka, .ref wa, .int (nI (P.length + (fm_its Q).length))])), (ga, .inl (cB, 8192, .inl (g))), (ra, .inl (cB, 64, .inl (rw))), (ka, .inl (cI, 1100, .inl (kd2))), (wa, .inl (cI, 1100, .inl (wd2)))] := hD
                obtain ⟨hPQ, hRL⟩ := hI_197
                refine lv_iload_n hx hb d_MO_set_197 rfl (lv_at hl 1 rfl) ?_
                refine lv_if_lt (tgt := 224) hx hb d_MO_set_198 (by decide) (fun c0 => ?_) (fun c0 => ?_)
                · have c_198 := c0
                  have hP0 : P = [] := by
                    rcases Nat.eq_zero_or_pos P.length with h | h
                    · exact List.length_eq_zero_iff.mp h
                    · exact absurd (show nI (P.length - 1) < 0 by rw [← nI_pred (P.length - 1), show P.length - 1 + 1 = P.length by omega]; exact c_198) (nI_pos (by have h9 := congrArg List.length hPQ; rw [List.length_append] at h9; omega))
                  subst hP0
                  have hQ : Q = LL := hPQ
                  rw [hQ] at hRL hP hD
                  refine lv_aload_n hx hb d_MO_set_224 rfl (lv_at hl 0 rfl) ?_
                  refine va_get (D := (dC, dI)) (ci := 4) (v := .int (nI ((([] : List (Nat × Int32))).length + (fm_its LL).length))) (C := R_MO) (T := F_MO) (N := 11) hx hb ht i_MO hown hK hP 0 rfl rfl 10 (by decide) (ht _ q_3_123) (fun _ h9 => h9) rfl d_MO_set_225 ?_
                  exact W.iret hx hb hr (fun t ht hW => ⟨(kd2, wd2), (fun L hL9 => by rw [hset] at hL9; cases hL9; exact hRL), congrArg (fun z => Outcome.returned (some (Value.int z))) (by rw [hset]; show nI (0 + (fm_its LL).length) = nI (fm_its LL).length; rw [Nat.zero_add]), by rw [ht]; exact show va_P (dC, dI) classes [(h, .inr (4, [.int (nI (0)), .ref fa, .int (n0), .ref ga, .int (nI (1)), .int (nI (s0)), .ref ra, .int (nI (0)), .ref ka, .ref wa, .int (nI (fm_sN (fm_set (fm_RB g) s0 (fm_T0 (fm_RB g) (fm_RB rw) rn))))])), (ga, .inl (cB, 8192, .inl (g))), (ra, .inl (cB, 64, .inl (rw))), (ka, .inl (cI, 1100, .inl (kd2))), (wa, .inl (cI, 1100, .inl (wd2)))] _ from (by rw [hset]; show va_P (dC, dI) classes [(h, .inr (4, [.int (nI (0)), .ref fa, .int (n0), .ref ga, .int (nI (1)), .int (nI (s0)), .ref ra, .int (nI (0)), .ref ka, .ref wa, .int (nI ((fm_its LL).length))])), (ga, .inl (cB, 8192, .inl (g))), (ra, .inl (cB, 64, .inl (rw))), (ka, .inl (cI, 1100, .inl (kd2))), (wa, .inl (cI, 1100, .inl (wd2)))] _; rw [← Nat.zero_add (fm_its LL).length]; exact hP), hS.F ht⟩) hS.2.2 d_MO_set_228
                · have c_198 := c0
                  have hpos : 0 < P.length := by
                    rcases Nat.eq_zero_or_pos P.length with h | h
                    · exact absurd (by rw [h]; decide) c_198
                    · exact h
                  obtain ⟨P2, q, rfl⟩ := fm_snoc hpos
                  have hkq := fm_RL_last hRL
                  have hq8 := hok8 q (by rw [← hPQ]; simp)
                  have hPl : (P2 ++ [q]).length = P2.length + 1 := by simp
                  have h9 := congrArg List.length hPQ
                  rw [List.length_append, hPl] at h9
                  have hitsl : (fm_its Q).length ≤ Q.length := List.length_filter_le _ _
                  rw [hPl] at hP hD
                  have hl : lv_has ls 4 [(0, .ref h), (3, .int (nI (P2.length)))] := by rw [show ((nI ((P2 ++ [q])).length - nI 1) : Int32) = nI (P2.length) from by rw [hPl]; exact nI_pred _] at hl; exact hl
                  refine lv_aload_n hx hb d_MO_set_201 rfl (lv_at hl 0 rfl) ?_
                  refine va_get (D := (dC, dI)) (ci := 4) (v := .ref ka) (C := R_MO) (T := F_MO) (N := 11) hx hb ht i_MO hown hK hP 0 rfl rfl 8 (by decide) (ht _ q_3_121) (fun _ h9 => h9) rfl d_MO_set_202 ?_
                  refine lv_iload_n hx hb d_MO_set_205 rfl (lv_at hl 1 rfl) ?_
                  refine va_iald hx hb hK hP 3 1 rfl rfl (vp_in_nI (by omega) (by omega)) d_MO_set_206 ?_
                  refine fm_tw (z := kd2 (P2.length)) (by rw [nI_clamp (by omega)]) ?_
                  refine fm_tw (z := nI (q.1)) (hkq) ?_
                  refine lv_sipush (v := nI (256)) hx hb d_MO_set_207 (by decide) ?_
                  refine lv_icmp_ne (tgt := 218) hx hb d_MO_set_210 (by decide) (fun c0 => ?_) (fun c0 => ?_)
                  · have c_210 : ¬ (q.1 = 256) := fun z => c0 ((nI_eq (a := q.1) (b := 256) (by omega) (by omega)).mpr z)
                    have hq256 : ¬ q.1 = 256 := c_210
                    rw [show P2.length + 1 + (fm_its Q).length = P2.length + (fm_its (q :: Q)).length by rw [fm_its_c hq256]; simp; omega] at hP hD
                    refine lv_iinc (v := (nI P2.length - nI 1)) (lv' := [(3, .int (nI P2.length - nI 1)), (0, .ref h)]) hx hb d_MO_set_218 hl (k := 1) rfl (fm_m1 _) (by decide) rfl (fun ls hl => ?_)
                    refine lv_goto (tgt := 197) hx hb d_MO_set_221 (by decide) ?_
                    exact ih_197 P2 (q :: Q) kd2 wd2 H locs ls (by first | exact ⟨by rw [← hPQ, List.append_assoc]; rfl, by rw [fm_its_c hq256, show P2 ++ q :: fm_its Q = (P2 ++ [q]) ++ fm_its Q by simp]; exact hRL⟩ | exact ⟨by rw [← hPQ, List.append_assoc]; rfl, by rw [fm_its_d hq256]; exact fm_RL_drop hRL⟩) (by simp) (by first | exact hP | (rw [show P2.length + (fm_its (q :: Q)).length = P2.length + 1 + (fm_its Q).length - 1 by rw [fm_its_d hq256]; omega]; exact hP)) (by first | exact hD | (rw [show P2.length + (fm_its (q :: Q)).length = P2.length + 1 + (fm_its Q).length - 1 by rw [fm_its_d hq256]; omega]; exact hD)) hS (lv_sub hl [1, 0] rfl)
                  · have c_210 : q.1 = 256 := (nI_eq (a := q.1) (b := 256) (by omega) (by omega)).mp c0
                    have hq256 : q.1 = 256 := c_210
                    refine lv_aload_n hx hb d_MO_set_213 rfl (lv_at hl 0 rfl) ?_
                    refine lv_iload_n hx hb d_MO_set_214 rfl (lv_at hl 1 rfl) ?_
                    refine fm_wv S (c_MO_remove l dC dI h (nI (0)) fa n0 ga (nI (1)) (nI (s0)) ra (nI (0)) ka wa (P2.length + 1 + (fm_its Q).length) cI kd2 wd2 P2.length (by omega) (by omega)) rfl rfl k_MO_remove q_4_50 ⟨Nat.le_of_ble_eq_true rfl, Nat.le_of_ble_eq_true rfl⟩ hP hD hS (hK.sub [1] rfl) [0, 3, 4] (by decide) rfl 0 rfl rfl rfl hl.1 rfl (Nat.le_of_ble_eq_true rfl) ⟨Nat.zero_le _, Nat.zero_le _⟩ d_MO_set_215 [(h, .inr (4, [.int (nI (0)), .ref fa, .int (n0), .ref ga, .int (nI (1)), .int (nI (s0)), .ref ra, .int (nI (0)), .ref ka, .ref wa, .int (nI ((P2.length + 1 + (fm_its Q).length) - 1))])), (ga, .inl (cB, 8192, .inl (g))), (ra, .inl (cB, 64, .inl (rw))), (ka, .inl (cI, 1100, .inl (fm_rm kd2 P2.length ((P2.length + 1 + (fm_its Q).length) - 1)))), (wa, .inl (cI, 1100, .inl (fm_rm wd2 P2.length ((P2.length + 1 + (fm_its Q).length) - 1))))] [1, 2] rfl rfl (show ∀ i, i < 5 → i ∈ ([0, 3, 4] : List Nat) ∨ i ∈ ([1, 2] : List Nat) by decide) (by decide) rfl (fun H locs hP hD hS => ?_)
                    have hP : va_P (dC, dI) classes [(h, .inr (4, [.int (nI (0)), .ref fa, .int (n0), .ref ga, .int (nI (1)), .int (nI (s0)), .ref ra, .int (nI (0)), .ref ka, .ref wa, .int (nI ((P2.length + 1 + (fm_its Q).length) - 1))])), (ga, .inl (cB, 8192, .inl (g))), (ra, .inl (cB, 64, .inl (rw))), (ka, .inl (cI, 1100, .inl (fm_rm kd2 P2.length ((P2.length + 1 + (fm_its Q).length) - 1)))), (wa, .inl (cI, 1100, .inl (fm_rm wd2 P2.length ((P2.length + 1 + (fm_its Q).length) - 1))))] _ := hP
                    have hD : va_D A [(h, .inr (4, [.int (nI (0)), .ref fa, .int (n0), .ref ga, .int (nI (1)), .int (nI (s0)), .ref ra, .int (nI (0)), .ref ka, .ref wa, .int (nI ((P2.length + 1 + (fm_its Q).length) - 1))])), (ga, .inl (cB, 8192, .inl (g))), (ra, .inl (cB, 64, .inl (rw))), (ka, .inl (cI, 1100, .inl (fm_rm kd2 P2.length ((P2.length + 1 + (fm_its Q).length) - 1)))), (wa, .inl (cI, 1100, .inl (fm_rm wd2 P2.length ((P2.length + 1 + (fm_its Q).length) - 1))))] := hD
                    refine lv_iinc (v := (nI P2.length - nI 1)) (lv' := [(3, .int (nI P2.length - nI 1)), (0, .ref h)]) hx hb d_MO_set_218 hl (k := 1) rfl (fm_m1 _) (by decide) rfl (fun ls hl => ?_)
                    refine lv_goto (tgt := 197) hx hb d_MO_set_221 (by decide) ?_
                    exact ih_197 P2 (q :: Q) (fm_rm kd2 P2.length ((P2.length + 1 + (fm_its Q).length) - 1)) (fm_rm wd2 P2.length ((P2.length + 1 + (fm_its Q).length) - 1)) H locs ls (by first | exact ⟨by rw [← hPQ, List.append_assoc]; rfl, by rw [fm_its_c hq256, show P2 ++ q :: fm_its Q = (P2 ++ [q]) ++ fm_its Q by simp]; exact hRL⟩ | exact ⟨by rw [← hPQ, List.append_assoc]; rfl, by rw [fm_its_d hq256]; exact fm_RL_drop hRL⟩) (by simp) (by first | exact hP | (rw [show P2.length + (fm_its (q :: Q)).length = P2.length + 1 + (fm_its Q).length - 1 by rw [fm_its_d hq256]; omega]; exact hP)) (by first | exact hD | (rw [show P2.length + (fm_its (q :: Q)).length = P2.length + 1 + (fm_its Q).length - 1 by rw [fm_its_d hq256]; omega]; exact hD)) hS (lv_sub hl [1, 0] rfl)
              · have c_160 : ¬ (D.length + T.length ≤ D.length + 1) := fun z => c0 ((nI_leI (a := D.length + T.length) (b := D.length + 1) (by omega) (by omega)).mpr z)
                obtain ⟨x, r, R, rfl⟩ := fm_two (T := T) (by omega)
                obtain ⟨hst1, hst2, hst3⟩ := fm_stp_ok hV (s := s0) (D := D) hok
                refine lv_iload_n hx hb d_MO_set_163 rfl (lv_at hl 2 rfl) ?_
                refine lv_sipush (v := nI (1000)) hx hb d_MO_set_164 (by decide) ?_
                refine lv_icmp_ne (tgt := 178) hx hb d_MO_set_167 (by decide) (fun c0 => ?_) (fun c0 => ?_)
                · have c_167 : ¬ (a = 1000) := fun z => c0 ((nI_eq (a := a) (b := 1000) (by omega) (by omega)).mpr z)
                  refine lv_iinc (v := nI (a + 1)) (lv' := [(2, .int (nI (a + 1))), (0, .ref h), (1, .int (nI (D.length)))]) hx hb d_MO_set_178 hl (k := 2) rfl (nI_1 _) (by decide) rfl (fun ls hl => ?_)
                  refine lv_aload_n hx hb d_MO_set_181 rfl (lv_at hl 1 rfl) ?_
                  refine lv_iload_n hx hb d_MO_set_182 rfl (lv_at hl 2 rfl) ?_
                  refine fm_xv S (c_MO_step l dC dI h (nI (0)) fa n0 ga (nI (1)) ra (nI (0)) ka wa (D.length + ((x :: r :: R)).length) s0 cB cI g kd2 wd2 D x r R (hV) (hs) (hRL) (by simp) (by simp only [List.length_cons] at *; omega) (hok)) rfl rfl k_MO_step q_4_46 ⟨Nat.le_of_ble_eq_true rfl, Nat.le_of_ble_eq_true rfl⟩ hP hD hS (hK.sub [0, 1] rfl) [0, 1, 3, 4] (by decide) rfl 0 rfl rfl rfl hl.1 rfl (Nat.le_of_ble_eq_true rfl) ⟨Nat.zero_le _, Nat.zero_le _⟩ d_MO_set_183 (fun u => [(h, .inr (4, [.int (nI (0)), .ref fa, .int (n0), .ref ga, .int (nI (1)), .int (nI (s0)), .ref ra, .int (nI (0)), .ref ka, .ref wa, .int (nI ((fm_stp (fm_RB g) s0 D (x :: r :: R)).1.length + (fm_stp (fm_RB g) s0 D (x :: r :: R)).2.length))])), (ga, .inl (cB, 8192, .inl (g))), (ra, .inl (cB, 64, .inl (rw))), (ka, .inl (cI, 1100, .inl (u.1))), (wa, .inl (cI, 1100, .inl (u.2)))]) [2] (fun _ => rfl) (fun _ => rfl) (fun _ => show ∀ i, i < 5 → i ∈ ([0, 1, 3, 4] : List Nat) ∨ i ∈ ([2] : List Nat) by decide) (by decide) (fun _ => rfl) (fun u hu H locs hP hD hS => ?_)
                  obtain ⟨kd3, wd3⟩ := u
                  have hu_183 : fm_RL kd3 wd3 ((fm_stp (fm_RB g) s0 D (x :: r :: R)).1 ++ fm_c0 (fm_stp (fm_RB g) s0 D (x :: r :: R)).2) := hu
                  have hP : va_P (dC, dI) classes [(h, .inr (4, [.int (nI (0)), .ref fa, .int (n0), .ref ga, .int (nI (1)), .int (nI (s0)), .ref ra, .int (nI (0)), .ref ka, .ref wa, .int (nI ((fm_stp (fm_RB g) s0 D (x :: r :: R)).1.length + (fm_stp (fm_RB g) s0 D (x :: r :: R)).2.length))])), (ga, .inl (cB, 8192, .inl (g))), (ra, .inl (cB, 64, .inl (rw))), (ka, .inl (cI, 1100, .inl (kd3))), (wa, .inl (cI, 1100, .inl (wd3)))] _ := hP
                  have hD : va_D A [(h, .inr (4, [.int (nI (0)), .ref fa, .int (n0), .ref ga, .int (nI (1)), .int (nI (s0)), .ref ra, .int (nI (0)), .ref ka, .ref wa, .int (nI ((fm_stp (fm_RB g) s0 D (x :: r :: R)).1.length + (fm_stp (fm_RB g) s0 D (x :: r :: R)).2.length))])), (ga, .inl (cB, 8192, .inl (g))), (ra, .inl (cB, 64, .inl (rw))), (ka, .inl (cI, 1100, .inl (kd3))), (wa, .inl (cI, 1100, .inl (wd3)))] := hD
                  refine lv_istore_n (lv' := [(1, .int (nI ((fm_stp (fm_RB g) s0 D (x :: r :: R)).1.length))), (2, .int (nI (a + 1))), (0, .ref h)]) hx hb d_MO_set_186 rfl hl (by decide) rfl (fun ls hl => ?_)
                  refine lv_goto (tgt := 153) hx hb d_MO_set_187 (by decide) ?_
                  exact ih_153 (a + 1) ((fm_stp (fm_RB g) s0 D (x :: r :: R)).1) ((fm_stp (fm_RB g) s0 D (x :: r :: R)).2) kd3 wd3 H locs ls (⟨by omega, hu_183, hst1, fm_stp_okI hV hokI hok, by simp only [List.length_cons] at *; omega, by rw [← fm_run_s (by simp) (by omega)]; exact hrun⟩) (by omega) hP hD hS (lv_sub hl [2, 0, 1] rfl)
                · have c_167 : a = 1000 := (nI_eq (a := a) (b := 1000) (by omega) (by omega)).mp c0
                  rw [c_167, fm_run_0 (by simp)] at hrun
                  have hset : (fm_set (fm_RB g) s0 (fm_T0 (fm_RB g) (fm_RB rw) rn)) = none := by unfold fm_set; rw [← hrun]; rfl
                  refine lv_aload_n hx hb d_MO_set_170 rfl (lv_at hl 0 rfl) ?_
                  refine lv_iconst (v := nI (0)) hx hb d_MO_set_171 (by decide) ?_
                  refine va_put (D := (dC, dI)) (ci := 4) (v := .int (nI (0))) (ty := .int) (C := R_MO) (T := F_MO) (N := 11) hx hb ht i_MO t_MO t_MO_ok n_MO hown hK hP hD hS 0 rfl rfl 10 (by decide) (ht _ q_3_123) (fun _ h9 => h9) rfl (by decide +kernel) (rfl) (rfl) (Nat.le_of_ble_eq_true rfl) d_MO_set_172 (fun H locs hP hD hS => ?_)
                  have hP : va_P (dC, dI) classes [(h, .inr (4, [.int (nI (0)), .ref fa, .int (n0), .ref ga, .int (nI (1)), .int (nI (s0)), .ref ra, .int (nI (0)), .ref ka, .ref wa, .int (nI (0))])), (ga, .inl (cB, 8192, .inl (g))), (ra, .inl (cB, 64, .inl (rw))), (ka, .inl (cI, 1100, .inl (kd2))), (wa, .inl (cI, 1100, .inl (wd2)))] _ := hP
                  have hD : va_D A [(h, .inr (4, [.int (nI (0)), .ref fa, .int (n0), .ref ga, .int (nI (1)), .int (nI (s0)), .ref ra, .int (nI (0)), .ref ka, .ref wa, .int (nI (0))])), (ga, .inl (cB, 8192, .inl (g))), (ra, .inl (cB, 64, .inl (rw))), (ka, .inl (cI, 1100, .inl (kd2))), (wa, .inl (cI, 1100, .inl (wd2)))] := hD
                  refine lv_bipush (v := ((-2))) hx hb d_MO_set_175 (by decide) ?_
                  exact W.iret hx hb hr (fun t ht hW => ⟨(kd2, wd2), (fun L hL9 => by rw [hset] at hL9; cases hL9), congrArg (fun z => Outcome.returned (some (Value.int z))) (by rw [hset]; rfl), by rw [ht]; exact show va_P (dC, dI) classes [(h, .inr (4, [.int (nI (0)), .ref fa, .int (n0), .ref ga, .int (nI (1)), .int (nI (s0)), .ref ra, .int (nI (0)), .ref ka, .ref wa, .int (nI (fm_sN (fm_set (fm_RB g) s0 (fm_T0 (fm_RB g) (fm_RB rw) rn))))])), (ga, .inl (cB, 8192, .inl (g))), (ra, .inl (cB, 64, .inl (rw))), (ka, .inl (cI, 1100, .inl (kd2))), (wa, .inl (cI, 1100, .inl (wd2)))] _ from (by rw [hset]; exact hP), hS.F ht⟩) hS.2.2 d_MO_set_177
          · have c_94 : ¬ (rn ≤ i) := fun z => c0 ((nI_leI (a := rn) (b := i) (by omega) (by omega)).mpr z)
            refine lv_aload_n hx hb d_MO_set_97 rfl (lv_at hl 0 rfl) ?_
            refine lv_aload_n hx hb d_MO_set_98 rfl (lv_at hl 0 rfl) ?_
            refine va_get (D := (dC, dI)) (ci := 4) (v := .int (nI ((fm_E1 (fm_RB g)).length + i))) (C := R_MO) (T := F_MO) (N := 11) hx hb ht i_MO hown hK hP 0 rfl rfl 10 (by decide) (ht _ q_3_123) (fun _ h9 => h9) rfl d_MO_set_99 ?_
            refine lv_aload_n hx hb d_MO_set_102 rfl (lv_at hl 0 rfl) ?_
            refine va_get (D := (dC, dI)) (ci := 4) (v := .ref ra) (C := R_MO) (T := F_MO) (N := 11) hx hb ht i_MO hown hK hP 0 rfl rfl 6 (by decide) (ht _ q_3_119) (fun _ h9 => h9) rfl d_MO_set_103 ?_
            refine lv_iload_n hx hb d_MO_set_106 rfl (lv_at hl 1 rfl) ?_
            refine va_bald hx hb hK hP 2 0 rfl rfl (vp_in_nI (by omega) (by omega)) d_MO_set_107 ?_
            refine fm_tw (z := rw (i)) (by rw [nI_clamp (by omega)]) ?_
            refine lv_sipush (v := nI (255)) hx hb d_MO_set_108 (by decide) ?_
            refine lv_iand hx hb d_MO_set_111 ?_
            refine fm_tw (z := nI (fm_RB rw (i))) (fm_RB_and _ _) ?_
            refine lv_iconst (v := nI (0)) hx hb d_MO_set_112 (by decide) ?_
            refine fm_wv S (c_MO_insert l dC dI h (nI (0)) fa n0 ga (nI (1)) (nI (s0)) ra (nI (rn)) ka wa ((fm_E1 (fm_RB g)).length + i) cI kd2 wd2 ((fm_E1 (fm_RB g)).length + i) (nI (fm_RB rw (i))) (nI (0)) (by omega) (by omega)) rfl rfl k_MO_insert q_4_42 ⟨Nat.le_of_ble_eq_true rfl, Nat.le_of_ble_eq_true rfl⟩ hP hD hS (hK.sub [1] rfl) [0, 3, 4] (by decide) rfl 0 rfl rfl rfl hl.1 rfl (Nat.le_of_ble_eq_true rfl) ⟨Nat.zero_le _, Nat.zero_le _⟩ d_MO_set_113 [(h, .inr (4, [.int (nI (0)), .ref fa, .int (n0), .ref ga, .int (nI (1)), .int (nI (s0)), .ref ra, .int (nI (rn)), .ref ka, .ref wa, .int (nI (((fm_E1 (fm_RB g)).length + i) + 1))])), (ga, .inl (cB, 8192, .inl (g))), (ra, .inl (cB, 64, .inl (rw))), (ka, .inl (cI, 1100, .inl (fm_ins kd2 ((fm_E1 (fm_RB g)).length + i) ((fm_E1 (fm_RB g)).length + i) (nI (fm_RB rw (i)))))), (wa, .inl (cI, 1100, .inl (fm_ins wd2 ((fm_E1 (fm_RB g)).length + i) ((fm_E1 (fm_RB g)).length + i) (nI (0)))))] [1, 2] rfl rfl (show ∀ i, i < 5 → i ∈ ([0, 3, 4] : List Nat) ∨ i ∈ ([1, 2] : List Nat) by decide) (by decide) rfl (fun H locs hP hD hS => ?_)
            have hP : va_P (dC, dI) classes [(h, .inr (4, [.int (nI (0)), .ref fa, .int (n0), .ref ga, .int (nI (1)), .int (nI (s0)), .ref ra, .int (nI (rn)), .ref ka, .ref wa, .int (nI (((fm_E1 (fm_RB g)).length + i) + 1))])), (ga, .inl (cB, 8192, .inl (g))), (ra, .inl (cB, 64, .inl (rw))), (ka, .inl (cI, 1100, .inl (fm_ins kd2 ((fm_E1 (fm_RB g)).length + i) ((fm_E1 (fm_RB g)).length + i) (nI (fm_RB rw (i)))))), (wa, .inl (cI, 1100, .inl (fm_ins wd2 ((fm_E1 (fm_RB g)).length + i) ((fm_E1 (fm_RB g)).length + i) (nI (0)))))] _ := hP
            have hD : va_D A [(h, .inr (4, [.int (nI (0)), .ref fa, .int (n0), .ref ga, .int (nI (1)), .int (nI (s0)), .ref ra, .int (nI (rn)), .ref ka, .ref wa, .int (nI (((fm_E1 (fm_RB g)).length + i) + 1))])), (ga, .inl (cB, 8192, .inl (g))), (ra, .inl (cB, 64, .inl (rw))), (ka, .inl (cI, 1100, .inl (fm_ins kd2 ((fm_E1 (fm_RB g)).length + i) ((fm_E1 (fm_RB g)).length + i) (nI (fm_RB rw (i)))))), (wa, .inl (cI, 1100, .inl (fm_ins wd2 ((fm_E1 (fm_RB g)).length + i) ((fm_E1 (fm_RB g)).length + i) (nI (0)))))] := hD
            refine lv_iinc (v := nI (i + 1)) (lv' := [(1, .int (nI (i + 1))), (0, .ref h)]) hx hb d_MO_set_116 hl (k := 1) rfl (nI_1 _) (by decide) rfl (fun ls hl => ?_)
            refine lv_goto (tgt := 89) hx hb d_MO_set_119 (by decide) ?_
            exact ih_89 (i + 1) (fm_ins kd2 ((fm_E1 (fm_RB g)).length + i) ((fm_E1 (fm_RB g)).length + i) (nI (fm_RB rw (i)))) (fm_ins wd2 ((fm_E1 (fm_RB g)).length + i) ((fm_E1 (fm_RB g)).length + i) (nI (0))) H locs ls (⟨by omega, by rw [fm_row_s, ← List.append_assoc, fm_c0_app]; have h8 := fm_RL_e hRL (fm_RB rw i); rw [hlen] at h8; exact h8⟩) (by omega) hP hD hS (lv_sub hl [1, 0] rfl)
      · have c_37 : ¬ (rn ≤ i) := fun z => c0 ((nI_leI (a := rn) (b := i) (by omega) (by omega)).mpr z)
        refine lv_aload_n hx hb d_MO_set_40 rfl (lv_at hl 0 rfl) ?_
        refine va_get (D := (dC, dI)) (ci := 4) (v := .ref ga) (C := R_MO) (T := F_MO) (N := 11) hx hb ht i_MO hown hK hP 0 rfl rfl 3 (by decide) (ht _ q_3_116) (fun _ h9 => h9) rfl d_MO_set_41 ?_
        refine lv_aload_n hx hb d_MO_set_44 rfl (lv_at hl 0 rfl) ?_
        refine va_get (D := (dC, dI)) (ci := 4) (v := .ref ra) (C := R_MO) (T := F_MO) (N := 11) hx hb ht i_MO hown hK hP 0 rfl rfl 6 (by decide) (ht _ q_3_119) (fun _ h9 => h9) rfl d_MO_set_45 ?_
        refine lv_iload_n hx hb d_MO_set_48 rfl (lv_at hl 1 rfl) ?_
        refine va_bald hx hb hK hP 2 0 rfl rfl (vp_in_nI (by omega) (by omega)) d_MO_set_49 ?_
        refine fm_tw (z := rw (i)) (by rw [nI_clamp (by omega)]) ?_
        refine lv_sipush (v := nI (255)) hx hb d_MO_set_50 (by decide) ?_
        refine lv_iand hx hb d_MO_set_53 ?_
        refine fm_tw (z := nI (fm_RB rw (i))) (fm_RB_and _ _) ?_
        have hrb := fm_RB_lt rw i
        refine fm_cs S (c_MO_isThereN l dC dI ga cB g (fm_RB rw (i)) (by omega) (hL)) rfl rfl k_MO_isThere q_3_194 ⟨Nat.le_of_ble_eq_true rfl, Nat.le_of_ble_eq_true rfl⟩ (hP.sub [1] rfl) (hK.sub [0] rfl) rfl hl.1 rfl (Nat.le_of_ble_eq_true rfl) ⟨Nat.zero_le _, Nat.zero_le _⟩ d_MO_set_54 ?_
        refine lv_if_ne (tgt := 62) hx hb d_MO_set_57 (by decide) (fun c0 => ?_) (fun c0 => ?_)
        · have c_57 : (fm_th (fm_RB g) (fm_RB rw (i))) = true := fm_bI_t c0
          refine lv_iinc (v := nI (i + 1)) (lv' := [(1, .int (nI (i + 1))), (0, .ref h)]) hx hb d_MO_set_62 hl (k := 1) rfl (nI_1 _) (by decide) rfl (fun ls hl => ?_)
          refine lv_goto (tgt := 32) hx hb d_MO_set_65 (by decide) ?_
          exact ih_32 (i + 1) ls (⟨by omega, by rw [fm_all, hal, Bool.true_and]; exact c_57⟩) (by omega) (lv_sub hl [1, 0] rfl)
        · have c_57 : (fm_th (fm_RB g) (fm_RB rw (i))) = false := fm_bI_f c0
          rw [fm_all_no (k := i) (by omega) c_57] at hyes
          cases hyes
          
    · have c_20 : ¬ (0 ≤ 0) := fun z => c0 ((nI_leI (a := 0) (b := 0) (by omega) (by omega)).mpr z)
      exact absurd c_20 (by decide)
