/-! THE CLAIM OUT OF ONE WALK OF THE LAW'S BODY. Your part is whole_start (and what it stands on); all else here is the same for every law, but numbers. -/
def R_law : String := "FontMetricsLaw"
def lw_P (b : Addr) (xs : List Int32) (args : Array Value) (s : State) : Prop := args = #[.ref b] ∧ s.IntsAt b xs ∧ xs.length ≤ 2048 ∧ (Jvm.Cond.and given_1 narrow_1).before args s = true
def lw_Q (_ : Array Value) (s : State) (o : Outcome) (t : State) : Prop := o = .returned (some (.int 1)) ∧ Framed s o t [] 1055 36376
def lw_Z (below : List Frame) (a : Array Value) (s : State) : State → Prop := fun t => ∃ o, t.status = .running ∧ Ended t below o ∧ lw_Q a s o t
/-- the law's own end, with 1 on the stack, nothing written that was there before, its room as the claim has it -/
theorem lw_ret {p : Program} {l : Launch} {e : Env} {s : State} {m : MethodId} {below : List Frame} {meth : Method} {c : Code} {b : Nat} (hx : p.tables.exec = Jvm.exec) (hb : c.code = code) (hr : meth.sig.returnType = ret) (hlocks : meth.locks = false) {pc : Nat} {H : Heap} {ls : Array Slot} (hdg : decode code pc = .ok (.ireturn, 1)) : W p l e room_1 s m #[Value.ref b] below meth c H [] 1055 36376 (lw_Z below #[Value.ref b] s) (F0 m pc ls [.int 1]) := by
  intro T hT X
  obtain ⟨fs, hret, hrun, hended, hW, hframe⟩ := X.leave (v := some (.int 1)) (hlocks := hlocks) (fun h => by rw [hr] at h; cases h)
  have hmeth' : T.vm.method? m = some meth := X.method'
  refine ⟨T.setFrames fs, ?_, .returned (some (.int 1)), hrun, hended, rfl, ⟨_, rfl⟩, hW, hframe⟩
  jvm_step X.here [X.here.top, hx, hb, hdg, hmeth', hr, ret, narrow_b1]
  (try refine ⟨rfl, ?_⟩); (try refine ⟨rfl, ?_⟩)
  first | (intro acts; rw [hret _ acts rfl rfl rfl]) | rw [hret _ _ rfl rfl rfl]
  exact Steps.refl _
/-- what holds at the law's entry: the machine, the code, the tables' words (any of lw_tbl by 'hts w (by decide +kernel)'), the script of L ints xs at the cell b, what the Statement gives of the start (any of its parts by flat_of_before) -/
def lw_At (p : Program) (s : State) (m : MethodId) (meth : Method) (c : Code) (b L : Nat) (xs : Nat → Int32) : Prop :=
  p.tables.exec = Jvm.exec ∧ c.code = code ∧ meth.sig.returnType = ret ∧ c.maxLocals = 7 ∧ s.vm.findClass R_law = some m.cls ∧ (∀ w ∈ lw_tbl, w.before #[Value.ref b] s = true) ∧ va_X b L xs s s.heap ∧ b < s.heap.size ∧ meth.locks = false ∧ (Jvm.Cond.and given_1 narrow_1).before #[Value.ref b] s = true
abbrev fm_AA (s : State) : Nat → Prop := fun q => s.heap.size ≤ q
/-- what stays over the law's walk -/
def fm_CX (p : Program) (l : Launch) (s : State) (m : MethodId) (meth : Method) (c : Code) (ab L : Nat) (xs : Nat → Int32) (dC : Nat → ClassId) (dI : Nat → Nat → Nat) (cI cZ cB cL : ClassId) : Prop :=
  l.stackTraces = false ∧ lw_At p s m meth c ab L xs ∧ L ≤ 2048 ∧ va_K (dC, dI) classes [(cI, .int), (cZ, .boolean), (cB, .byte), (cL, .long)] s ∧ (∀ (H : Heap) (locs : List Loc), va_S (fm_AA s) s.heap H locs → fm_TH s H) ∧ va_Nc fm_IO fm_IS s
/-- class and reference side by side in the heap -/
def fm_St (dC : Nat → ClassId) (dI : Nat → Nat → Nat) (cI cZ cB cL : ClassId) (A : Nat → Prop) (H0 : Heap) (h mo ou : Nat) (H : Heap) (locs : List Loc) : Prop :=
  ∃ (bf ba li pa va na ra o wa sa la sp wb sb lb fa ga mr ka kw : Nat) (n : Nat) (b : Nat → Int32) (rn : Nat) (rw : Nat → Int32) (ld : Nat) (le : Int32) (cn : Nat) (pd : Nat → Int32) (vl : Nat → Int32) (kn : Nat → Int32) (bc : Int32) (ec : Int32) (sz : Int32) (sc : Int32) (hv : Int32) (w : Nat → Int32) (st : Nat → Int32) (ln : Nat → Int32) (bc2 : Int32) (ec2 : Int32) (sz2 : Int32) (sc2 : Int32) (hv2 : Int32) (w2 : Nat → Int32) (st2 : Nat → Int32) (ln2 : Nat → Int32) (th : Int32) (f : Nat → Int32) (g : Nat → Int32) (s0 : Nat) (rb : Nat → Int32) (kd : Nat → Int32) (wd : Nat → Int32) (ov : Nat → Int64), fm_J n b f rn rw rb ld cn vl kn kd wd g s0 bc ec sz sc hv w st ln ∧ va_P (dC, dI) classes [(h, .inr (3, [.ref bf, .ref li, .ref ra, .int (nI (rn)), .ref o, .ref sp, .int (nI (ld))])), (bf, .inr (0, [.ref ba, .int (nI (n))])), (ba, .inl (cI, 2048, .inl (b))), (li, .inr (2, [.ref pa, .ref va, .ref na, .int (le), .int (nI (cn))])), (pa, .inl (cI, 1066, .inl (pd))), (va, .inl (cI, 1066, .inl (vl))), (na, .inl (cZ, 1066, .inl (kn))), (ra, .inl (cI, 64, .inl (rw))), (o, .inr (1, [.ref wa, .ref sa, .ref la, .int (bc), .int (ec), .int (sz), .int (sc), .int (hv)])), (wa, .inl (cI, 2048, .inl (w))), (sa, .inl (cI, 10, .inl (st))), (la, .inl (cI, 10, .inl (ln))), (sp, .inr (1, [.ref wb, .ref sb, .ref lb, .int (bc2), .int (ec2), .int (sz2), .int (sc2), .int (hv2)])), (wb, .inl (cI, 2048, .inl (w2))), (sb, .inl (cI, 10, .inl (st2))), (lb, .inl (cI, 10, .inl (ln2))), (mo, .inr (4, [.int (th), .ref fa, .int (nI (n)), .ref ga, .int (nI (ld)), .int (nI (s0)), .ref mr, .int (nI (rn)), .ref ka, .ref kw, .int (nI (cn))])), (fa, .inl (cB, 8192, .inl (f))), (ga, .inl (cB, 8192, .inl (g))), (mr, .inl (cB, 64, .inl (rb))), (ka, .inl (cI, 1100, .inl (kd))), (kw, .inl (cI, 1100, .inl (wd))), (ou, .inl (cL, 1, .inr (.inl (ov))))] H ∧ va_D A [(h, .inr (3, [.ref bf, .ref li, .ref ra, .int (nI (rn)), .ref o, .ref sp, .int (nI (ld))])), (bf, .inr (0, [.ref ba, .int (nI (n))])), (ba, .inl (cI, 2048, .inl (b))), (li, .inr (2, [.ref pa, .ref va, .ref na, .int (le), .int (nI (cn))])), (pa, .inl (cI, 1066, .inl (pd))), (va, .inl (cI, 1066, .inl (vl))), (na, .inl (cZ, 1066, .inl (kn))), (ra, .inl (cI, 64, .inl (rw))), (o, .inr (1, [.ref wa, .ref sa, .ref la, .int (bc), .int (ec), .int (sz), .int (sc), .int (hv)])), (wa, .inl (cI, 2048, .inl (w))), (sa, .inl (cI, 10, .inl (st))), (la, .inl (cI, 10, .inl (ln))), (sp, .inr (1, [.ref wb, .ref sb, .ref lb, .int (bc2), .int (ec2), .int (sz2), .int (sc2), .int (hv2)])), (wb, .inl (cI, 2048, .inl (w2))), (sb, .inl (cI, 10, .inl (st2))), (lb, .inl (cI, 10, .inl (ln2))), (mo, .inr (4, [.int (th), .ref fa, .int (nI (n)), .ref ga, .int (nI (ld)), .int (nI (s0)), .ref mr, .int (nI (rn)), .ref ka, .ref kw, .int (nI (cn))])), (fa, .inl (cB, 8192, .inl (f))), (ga, .inl (cB, 8192, .inl (g))), (mr, .inl (cB, 64, .inl (rb))), (ka, .inl (cI, 1100, .inl (kd))), (kw, .inl (cI, 1100, .inl (wd))), (ou, .inl (cL, 1, .inr (.inl (ov))))] ∧ va_S A H0 H locs
def fm_K8 (p : Program) (l : Launch) (e : Env) (s : State) (m : MethodId) (ab : Nat) (below : List Frame) (meth : Method) (c : Code) (dC : Nat → ClassId) (dI : Nat → Nat → Nat) (cI cZ cB cL : ClassId) (Q : State → Prop) (cells slots h mo ou i4 : Nat) : Prop :=
  ∀ (H : Heap) (locs : List Loc) (ls : Array Slot), fm_St dC dI cI cZ cB cL (fm_AA s) s.heap h mo ou H locs → lv_has ls 7 [(4, .int (nI (i4))), (3, .ref ou), (2, .ref mo), (1, .ref h), (0, .ref ab)] → W p l e room_1 s m #[Value.ref ab] below meth c H locs (cells + 1) (slots + 6) Q (F0 m 801 ls [])
theorem c_MO_hasU (l : Launch) (dC : Nat → ClassId) (dI : Nat → Nat → Nat) (h : Nat) (th : Int32) (fa : Nat) (n0 : Int32) (ga : Nat) (sz : Int32) (ra : Nat) (rz : Int32) (ka : Nat) (wa : Nat) (ct : Int32) (cB : ClassId) (g : Nat → Int32) (x : Int32) : fm_MW l (dC, dI) y_MO_has w_MO_has ({ frames := 5, cells := 0, slots := 0, locals := 109 }) [.ref h, .int (x)] [(h, .inr (4, [.int (th), .ref fa, .int (n0), .ref ga, .int (nI (0)), .int (sz), .ref ra, .int (rz), .ref ka, .ref wa, .int (ct)])), (ga, .inl (cB, 8192, .inl (g)))] [(h, .inr (4, [.int (nI (0)), .ref fa, .int (n0), .ref ga, .int (nI (0)), .int (sz), .ref ra, .int (rz), .ref ka, .ref wa, .int (ct)])), (ga, .inl (cB, 8192, .inl (g)))] [(cB, .byte)] (some (.int (nI 0))) := by
  have h1 := c_MO_has l dC dI h th fa n0 ga sz ra rz ka wa ct false cB g x (fun z => nomatch z)
  rw [show fm_bI false = nI 0 from rfl, Bool.false_and, show fm_bI false = nI 0 from rfl] at h1
  exact h1
theorem c_MO_hasL (l : Launch) (dC : Nat → ClassId) (dI : Nat → Nat → Nat) (h : Nat) (th : Int32) (fa : Nat) (n0 : Int32) (ga : Nat) (sz : Int32) (ra : Nat) (rz : Int32) (ka : Nat) (wa : Nat) (ct : Int32) (cB : ClassId) (g : Nat → Int32) (x : Int32) (hL : fm_Len (fm_RB g)) : fm_MW l (dC, dI) y_MO_has w_MO_has ({ frames := 5, cells := 0, slots := 0, locals := 109 }) [.ref h, .int (x)] [(h, .inr (4, [.int (th), .ref fa, .int (n0), .ref ga, .int (nI (1)), .int (sz), .ref ra, .int (rz), .ref ka, .ref wa, .int (ct)])), (ga, .inl (cB, 8192, .inl (g)))] [(h, .inr (4, [.int (nI (0)), .ref fa, .int (n0), .ref ga, .int (nI (1)), .int (sz), .ref ra, .int (rz), .ref ka, .ref wa, .int (ct)])), (ga, .inl (cB, 8192, .inl (g)))] [(cB, .byte)] (some (.int (fm_bI (fm_thI (fm_RB g) x)))) := by
  have h1 := c_MO_has l dC dI h th fa n0 ga sz ra rz ka wa ct true cB g x (fun _ => hL)
  rw [show fm_bI true = nI 1 from rfl, Bool.true_and] at h1
  exact h1
theorem d_LW_law_0 : decode code 0 = .ok (.new 8, 3) := by decide +kernel
theorem d_LW_law_3 : decode code 3 = .ok (.dup, 1) := by decide +kernel
theorem d_LW_law_4 : decode code 4 = .ok (.invokespecial 46, 3) := by decide +kernel
theorem d_LW_law_7 : decode code 7 = .ok (.astore_n 1, 1) := by decide +kernel
theorem d_LW_law_8 : decode code 8 = .ok (.new 47, 3) := by decide +kernel
theorem d_LW_law_11 : decode code 11 = .ok (.dup, 1) := by decide +kernel
theorem d_LW_law_12 : decode code 12 = .ok (.invokespecial 49, 3) := by decide +kernel
theorem d_LW_law_15 : decode code 15 = .ok (.astore_n 2, 1) := by decide +kernel
theorem d_LW_law_16 : decode code 16 = .ok (.iconst 1, 1) := by decide +kernel
theorem d_LW_law_17 : decode code 17 = .ok (.newarray .long, 2) := by decide +kernel
theorem d_LW_law_19 : decode code 19 = .ok (.astore_n 3, 1) := by decide +kernel
theorem d_LW_law_20 : decode code 20 = .ok (.iconst 0, 1) := by decide +kernel
theorem d_LW_law_21 : decode code 21 = .ok (.istore 4, 2) := by decide +kernel
theorem d_LW_law_23 : decode code 23 = .ok (.iload 4, 2) := by decide +kernel
theorem d_LW_law_25 : decode code 25 = .ok (.aload_n 0, 1) := by decide +kernel
theorem d_LW_law_26 : decode code 26 = .ok (.arraylength, 1) := by decide +kernel
theorem d_LW_law_27 : decode code 27 = .ok (.iconst 4, 1) := by decide +kernel
theorem d_LW_law_28 : decode code 28 = .ok (.isub, 1) := by decide +kernel
theorem d_LW_law_29 : decode code 29 = .ok (.if_icmp .gt 778, 3) := by decide +kernel
theorem d_LW_law_32 : decode code 32 = .ok (.aload_n 0, 1) := by decide +kernel
theorem d_LW_law_33 : decode code 33 = .ok (.iload 4, 2) := by decide +kernel
theorem d_LW_law_35 : decode code 35 = .ok (.iaload, 1) := by decide +kernel
theorem d_LW_law_36 : decode code 36 = .ok (.bipush 15, 2) := by decide +kernel
theorem d_LW_law_38 : decode code 38 = .ok (.iand, 1) := by decide +kernel
theorem d_LW_law_39 : decode code 39 = .ok (.tableswitch 762 0 13 #[69, 138, 163, 219, 275, 300, 368, 436, 492, 560, 585, 629, 692, 748], 69) := by decide +kernel
theorem d_LW_law_108 : decode code 108 = .ok (.aload_n 1, 1) := by decide +kernel
theorem d_LW_law_109 : decode code 109 = .ok (.aload_n 0, 1) := by decide +kernel
theorem d_LW_law_110 : decode code 110 = .ok (.iload 4, 2) := by decide +kernel
theorem d_LW_law_112 : decode code 112 = .ok (.iconst 1, 1) := by decide +kernel
theorem d_LW_law_113 : decode code 113 = .ok (.iadd, 1) := by decide +kernel
theorem d_LW_law_114 : decode code 114 = .ok (.iaload, 1) := by decide +kernel
theorem d_LW_law_115 : decode code 115 = .ok (.i2l, 1) := by decide +kernel
theorem d_LW_law_116 : decode code 116 = .ok (.bipush 32, 2) := by decide +kernel
theorem d_LW_law_118 : decode code 118 = .ok (.lshl, 1) := by decide +kernel
theorem d_LW_law_119 : decode code 119 = .ok (.aload_n 0, 1) := by decide +kernel
theorem d_LW_law_120 : decode code 120 = .ok (.iload 4, 2) := by decide +kernel
theorem d_LW_law_122 : decode code 122 = .ok (.iconst 2, 1) := by decide +kernel
theorem d_LW_law_123 : decode code 123 = .ok (.iadd, 1) := by decide +kernel
theorem d_LW_law_124 : decode code 124 = .ok (.iaload, 1) := by decide +kernel
theorem d_LW_law_125 : decode code 125 = .ok (.i2l, 1) := by decide +kernel
theorem d_LW_law_126 : decode code 126 = .ok (.ldc2_w 50, 3) := by decide +kernel
theorem d_LW_law_129 : decode code 129 = .ok (.land, 1) := by decide +kernel
theorem d_LW_law_130 : decode code 130 = .ok (.lor, 1) := by decide +kernel
theorem d_LW_law_131 : decode code 131 = .ok (.aload_n 0, 1) := by decide +kernel
theorem d_LW_law_132 : decode code 132 = .ok (.iload 4, 2) := by decide +kernel
theorem d_LW_law_134 : decode code 134 = .ok (.iconst 3, 1) := by decide +kernel
theorem d_LW_law_135 : decode code 135 = .ok (.iadd, 1) := by decide +kernel
theorem d_LW_law_136 : decode code 136 = .ok (.iaload, 1) := by decide +kernel
theorem d_LW_law_137 : decode code 137 = .ok (.invokevirtual 52, 3) := by decide +kernel
theorem d_LW_law_140 : decode code 140 = .ok (.aload_n 2, 1) := by decide +kernel
theorem d_LW_law_141 : decode code 141 = .ok (.aload_n 0, 1) := by decide +kernel
theorem d_LW_law_142 : decode code 142 = .ok (.iload 4, 2) := by decide +kernel
theorem d_LW_law_144 : decode code 144 = .ok (.iconst 1, 1) := by decide +kernel
theorem d_LW_law_145 : decode code 145 = .ok (.iadd, 1) := by decide +kernel
theorem d_LW_law_146 : decode code 146 = .ok (.iaload, 1) := by decide +kernel
theorem d_LW_law_147 : decode code 147 = .ok (.i2l, 1) := by decide +kernel
theorem d_LW_law_148 : decode code 148 = .ok (.bipush 32, 2) := by decide +kernel
theorem d_LW_law_150 : decode code 150 = .ok (.lshl, 1) := by decide +kernel
theorem d_LW_law_151 : decode code 151 = .ok (.aload_n 0, 1) := by decide +kernel
theorem d_LW_law_152 : decode code 152 = .ok (.iload 4, 2) := by decide +kernel
theorem d_LW_law_154 : decode code 154 = .ok (.iconst 2, 1) := by decide +kernel
theorem d_LW_law_155 : decode code 155 = .ok (.iadd, 1) := by decide +kernel
theorem d_LW_law_156 : decode code 156 = .ok (.iaload, 1) := by decide +kernel
theorem d_LW_law_157 : decode code 157 = .ok (.i2l, 1) := by decide +kernel
theorem d_LW_law_158 : decode code 158 = .ok (.ldc2_w 50, 3) := by decide +kernel
theorem d_LW_law_161 : decode code 161 = .ok (.land, 1) := by decide +kernel
theorem d_LW_law_162 : decode code 162 = .ok (.lor, 1) := by decide +kernel
theorem d_LW_law_163 : decode code 163 = .ok (.aload_n 0, 1) := by decide +kernel
theorem d_LW_law_164 : decode code 164 = .ok (.iload 4, 2) := by decide +kernel
theorem d_LW_law_166 : decode code 166 = .ok (.iconst 3, 1) := by decide +kernel
theorem d_LW_law_167 : decode code 167 = .ok (.iadd, 1) := by decide +kernel
theorem d_LW_law_168 : decode code 168 = .ok (.iaload, 1) := by decide +kernel
theorem d_LW_law_169 : decode code 169 = .ok (.invokevirtual 56, 3) := by decide +kernel
theorem d_LW_law_172 : decode code 172 = .ok (.if_icmp .eq 629, 3) := by decide +kernel
theorem d_LW_law_175 : decode code 175 = .ok (.iconst 0, 1) := by decide +kernel
theorem d_LW_law_176 : decode code 176 = .ok (.ireturn, 1) := by decide +kernel
theorem d_LW_law_177 : decode code 177 = .ok (.aload_n 1, 1) := by decide +kernel
theorem d_LW_law_178 : decode code 178 = .ok (.aload_n 0, 1) := by decide +kernel
theorem d_LW_law_179 : decode code 179 = .ok (.iload 4, 2) := by decide +kernel
theorem d_LW_law_181 : decode code 181 = .ok (.iconst 1, 1) := by decide +kernel
theorem d_LW_law_182 : decode code 182 = .ok (.iadd, 1) := by decide +kernel
theorem d_LW_law_183 : decode code 183 = .ok (.iaload, 1) := by decide +kernel
theorem d_LW_law_184 : decode code 184 = .ok (.invokevirtual 57, 3) := by decide +kernel
theorem d_LW_law_187 : decode code 187 = .ok (.aload_n 2, 1) := by decide +kernel
theorem d_LW_law_188 : decode code 188 = .ok (.aload_n 0, 1) := by decide +kernel
theorem d_LW_law_189 : decode code 189 = .ok (.iload 4, 2) := by decide +kernel
theorem d_LW_law_191 : decode code 191 = .ok (.iconst 1, 1) := by decide +kernel
theorem d_LW_law_192 : decode code 192 = .ok (.iadd, 1) := by decide +kernel
theorem d_LW_law_193 : decode code 193 = .ok (.iaload, 1) := by decide +kernel
theorem d_LW_law_194 : decode code 194 = .ok (.invokevirtual 60, 3) := by decide +kernel
theorem d_LW_law_197 : decode code 197 = .ok (.if_icmp .eq 604, 3) := by decide +kernel
theorem d_LW_law_200 : decode code 200 = .ok (.iconst 0, 1) := by decide +kernel
theorem d_LW_law_201 : decode code 201 = .ok (.ireturn, 1) := by decide +kernel
theorem d_LW_law_202 : decode code 202 = .ok (.aload_n 1, 1) := by decide +kernel
theorem d_LW_law_203 : decode code 203 = .ok (.aload_n 0, 1) := by decide +kernel
theorem d_LW_law_204 : decode code 204 = .ok (.iload 4, 2) := by decide +kernel
theorem d_LW_law_206 : decode code 206 = .ok (.iconst 1, 1) := by decide +kernel
theorem d_LW_law_207 : decode code 207 = .ok (.iadd, 1) := by decide +kernel
theorem d_LW_law_208 : decode code 208 = .ok (.iaload, 1) := by decide +kernel
theorem d_LW_law_209 : decode code 209 = .ok (.aload_n 3, 1) := by decide +kernel
theorem d_LW_law_210 : decode code 210 = .ok (.invokestatic 61, 3) := by decide +kernel
theorem d_LW_law_213 : decode code 213 = .ok (.istore 5, 2) := by decide +kernel
theorem d_LW_law_215 : decode code 215 = .ok (.aload_n 2, 1) := by decide +kernel
theorem d_LW_law_216 : decode code 216 = .ok (.aload_n 0, 1) := by decide +kernel
theorem d_LW_law_217 : decode code 217 = .ok (.iload 4, 2) := by decide +kernel
theorem d_LW_law_219 : decode code 219 = .ok (.iconst 1, 1) := by decide +kernel
theorem d_LW_law_220 : decode code 220 = .ok (.iadd, 1) := by decide +kernel
theorem d_LW_law_221 : decode code 221 = .ok (.iaload, 1) := by decide +kernel
theorem d_LW_law_222 : decode code 222 = .ok (.invokevirtual 66, 3) := by decide +kernel
theorem d_LW_law_225 : decode code 225 = .ok (.istore 6, 2) := by decide +kernel
theorem d_LW_law_227 : decode code 227 = .ok (.aload_n 2, 1) := by decide +kernel
theorem d_LW_law_228 : decode code 228 = .ok (.invokevirtual 67, 3) := by decide +kernel
theorem d_LW_law_231 : decode code 231 = .ok (.iload 5, 2) := by decide +kernel
theorem d_LW_law_233 : decode code 233 = .ok (.if_icmp .eq 5, 3) := by decide +kernel
theorem d_LW_law_236 : decode code 236 = .ok (.iconst 0, 1) := by decide +kernel
theorem d_LW_law_237 : decode code 237 = .ok (.ireturn, 1) := by decide +kernel
theorem d_LW_law_238 : decode code 238 = .ok (.iload 5, 2) := by decide +kernel
theorem d_LW_law_240 : decode code 240 = .ok (.ifCond .ne 15, 3) := by decide +kernel
theorem d_LW_law_243 : decode code 243 = .ok (.aload_n 3, 1) := by decide +kernel
theorem d_LW_law_244 : decode code 244 = .ok (.iconst 0, 1) := by decide +kernel
theorem d_LW_law_245 : decode code 245 = .ok (.laload, 1) := by decide +kernel
theorem d_LW_law_246 : decode code 246 = .ok (.iload 6, 2) := by decide +kernel
theorem d_LW_law_248 : decode code 248 = .ok (.i2l, 1) := by decide +kernel
theorem d_LW_law_249 : decode code 249 = .ok (.lcmp, 1) := by decide +kernel
theorem d_LW_law_250 : decode code 250 = .ok (.ifCond .eq 5, 3) := by decide +kernel
theorem d_LW_law_253 : decode code 253 = .ok (.iconst 0, 1) := by decide +kernel
theorem d_LW_law_254 : decode code 254 = .ok (.ireturn, 1) := by decide +kernel
theorem d_LW_law_255 : decode code 255 = .ok (.goto 546, 3) := by decide +kernel
theorem d_LW_law_258 : decode code 258 = .ok (.aload_n 1, 1) := by decide +kernel
theorem d_LW_law_259 : decode code 259 = .ok (.aload_n 0, 1) := by decide +kernel
theorem d_LW_law_260 : decode code 260 = .ok (.iload 4, 2) := by decide +kernel
theorem d_LW_law_262 : decode code 262 = .ok (.iconst 1, 1) := by decide +kernel
theorem d_LW_law_263 : decode code 263 = .ok (.iadd, 1) := by decide +kernel
theorem d_LW_law_264 : decode code 264 = .ok (.iaload, 1) := by decide +kernel
theorem d_LW_law_265 : decode code 265 = .ok (.aload_n 3, 1) := by decide +kernel
theorem d_LW_law_266 : decode code 266 = .ok (.invokestatic 70, 3) := by decide +kernel
theorem d_LW_law_269 : decode code 269 = .ok (.istore 5, 2) := by decide +kernel
theorem d_LW_law_271 : decode code 271 = .ok (.aload_n 2, 1) := by decide +kernel
theorem d_LW_law_272 : decode code 272 = .ok (.aload_n 0, 1) := by decide +kernel
theorem d_LW_law_273 : decode code 273 = .ok (.iload 4, 2) := by decide +kernel
theorem d_LW_law_275 : decode code 275 = .ok (.iconst 1, 1) := by decide +kernel
theorem d_LW_law_276 : decode code 276 = .ok (.iadd, 1) := by decide +kernel
theorem d_LW_law_277 : decode code 277 = .ok (.iaload, 1) := by decide +kernel
theorem d_LW_law_278 : decode code 278 = .ok (.invokevirtual 72, 3) := by decide +kernel
theorem d_LW_law_281 : decode code 281 = .ok (.istore 6, 2) := by decide +kernel
theorem d_LW_law_283 : decode code 283 = .ok (.aload_n 2, 1) := by decide +kernel
theorem d_LW_law_284 : decode code 284 = .ok (.invokevirtual 67, 3) := by decide +kernel
theorem d_LW_law_287 : decode code 287 = .ok (.iload 5, 2) := by decide +kernel
theorem d_LW_law_289 : decode code 289 = .ok (.if_icmp .eq 5, 3) := by decide +kernel
theorem d_LW_law_292 : decode code 292 = .ok (.iconst 0, 1) := by decide +kernel
theorem d_LW_law_293 : decode code 293 = .ok (.ireturn, 1) := by decide +kernel
theorem d_LW_law_294 : decode code 294 = .ok (.iload 5, 2) := by decide +kernel
theorem d_LW_law_296 : decode code 296 = .ok (.ifCond .ne 15, 3) := by decide +kernel
theorem d_LW_law_299 : decode code 299 = .ok (.aload_n 3, 1) := by decide +kernel
theorem d_LW_law_300 : decode code 300 = .ok (.iconst 0, 1) := by decide +kernel
theorem d_LW_law_301 : decode code 301 = .ok (.laload, 1) := by decide +kernel
theorem d_LW_law_302 : decode code 302 = .ok (.iload 6, 2) := by decide +kernel
theorem d_LW_law_304 : decode code 304 = .ok (.i2l, 1) := by decide +kernel
theorem d_LW_law_305 : decode code 305 = .ok (.lcmp, 1) := by decide +kernel
theorem d_LW_law_306 : decode code 306 = .ok (.ifCond .eq 5, 3) := by decide +kernel
theorem d_LW_law_309 : decode code 309 = .ok (.iconst 0, 1) := by decide +kernel
theorem d_LW_law_310 : decode code 310 = .ok (.ireturn, 1) := by decide +kernel
theorem d_LW_law_311 : decode code 311 = .ok (.goto 490, 3) := by decide +kernel
theorem d_LW_law_314 : decode code 314 = .ok (.aload_n 1, 1) := by decide +kernel
theorem d_LW_law_315 : decode code 315 = .ok (.aload_n 0, 1) := by decide +kernel
theorem d_LW_law_316 : decode code 316 = .ok (.iload 4, 2) := by decide +kernel
theorem d_LW_law_318 : decode code 318 = .ok (.iconst 1, 1) := by decide +kernel
theorem d_LW_law_319 : decode code 319 = .ok (.iadd, 1) := by decide +kernel
theorem d_LW_law_320 : decode code 320 = .ok (.iaload, 1) := by decide +kernel
theorem d_LW_law_321 : decode code 321 = .ok (.invokevirtual 73, 3) := by decide +kernel
theorem d_LW_law_324 : decode code 324 = .ok (.aload_n 2, 1) := by decide +kernel
theorem d_LW_law_325 : decode code 325 = .ok (.aload_n 0, 1) := by decide +kernel
theorem d_LW_law_326 : decode code 326 = .ok (.iload 4, 2) := by decide +kernel
theorem d_LW_law_328 : decode code 328 = .ok (.iconst 1, 1) := by decide +kernel
theorem d_LW_law_329 : decode code 329 = .ok (.iadd, 1) := by decide +kernel
theorem d_LW_law_330 : decode code 330 = .ok (.iaload, 1) := by decide +kernel
theorem d_LW_law_331 : decode code 331 = .ok (.invokevirtual 76, 3) := by decide +kernel
theorem d_LW_law_334 : decode code 334 = .ok (.if_icmp .eq 467, 3) := by decide +kernel
theorem d_LW_law_337 : decode code 337 = .ok (.iconst 0, 1) := by decide +kernel
theorem d_LW_law_338 : decode code 338 = .ok (.ireturn, 1) := by decide +kernel
theorem d_LW_law_339 : decode code 339 = .ok (.aload_n 1, 1) := by decide +kernel
theorem d_LW_law_340 : decode code 340 = .ok (.aload_n 0, 1) := by decide +kernel
theorem d_LW_law_341 : decode code 341 = .ok (.iload 4, 2) := by decide +kernel
theorem d_LW_law_343 : decode code 343 = .ok (.iconst 1, 1) := by decide +kernel
theorem d_LW_law_344 : decode code 344 = .ok (.iadd, 1) := by decide +kernel
theorem d_LW_law_345 : decode code 345 = .ok (.iaload, 1) := by decide +kernel
theorem d_LW_law_346 : decode code 346 = .ok (.aload_n 0, 1) := by decide +kernel
theorem d_LW_law_347 : decode code 347 = .ok (.iload 4, 2) := by decide +kernel
theorem d_LW_law_349 : decode code 349 = .ok (.iconst 2, 1) := by decide +kernel
theorem d_LW_law_350 : decode code 350 = .ok (.iadd, 1) := by decide +kernel
theorem d_LW_law_351 : decode code 351 = .ok (.iaload, 1) := by decide +kernel
theorem d_LW_law_352 : decode code 352 = .ok (.aload_n 3, 1) := by decide +kernel
theorem d_LW_law_353 : decode code 353 = .ok (.invokestatic 77, 3) := by decide +kernel
theorem d_LW_law_356 : decode code 356 = .ok (.istore 5, 2) := by decide +kernel
theorem d_LW_law_358 : decode code 358 = .ok (.aload_n 2, 1) := by decide +kernel
theorem d_LW_law_359 : decode code 359 = .ok (.aload_n 0, 1) := by decide +kernel
theorem d_LW_law_360 : decode code 360 = .ok (.iload 4, 2) := by decide +kernel
theorem d_LW_law_362 : decode code 362 = .ok (.iconst 1, 1) := by decide +kernel
theorem d_LW_law_363 : decode code 363 = .ok (.iadd, 1) := by decide +kernel
theorem d_LW_law_364 : decode code 364 = .ok (.iaload, 1) := by decide +kernel
theorem d_LW_law_365 : decode code 365 = .ok (.aload_n 0, 1) := by decide +kernel
theorem d_LW_law_366 : decode code 366 = .ok (.iload 4, 2) := by decide +kernel
theorem d_LW_law_368 : decode code 368 = .ok (.iconst 2, 1) := by decide +kernel
theorem d_LW_law_369 : decode code 369 = .ok (.iadd, 1) := by decide +kernel
theorem d_LW_law_370 : decode code 370 = .ok (.iaload, 1) := by decide +kernel
theorem d_LW_law_371 : decode code 371 = .ok (.invokevirtual 80, 3) := by decide +kernel
theorem d_LW_law_374 : decode code 374 = .ok (.istore 6, 2) := by decide +kernel
theorem d_LW_law_376 : decode code 376 = .ok (.aload_n 2, 1) := by decide +kernel
theorem d_LW_law_377 : decode code 377 = .ok (.invokevirtual 67, 3) := by decide +kernel
theorem d_LW_law_380 : decode code 380 = .ok (.iload 5, 2) := by decide +kernel
theorem d_LW_law_382 : decode code 382 = .ok (.if_icmp .eq 5, 3) := by decide +kernel
theorem d_LW_law_385 : decode code 385 = .ok (.iconst 0, 1) := by decide +kernel
theorem d_LW_law_386 : decode code 386 = .ok (.ireturn, 1) := by decide +kernel
theorem d_LW_law_387 : decode code 387 = .ok (.iload 5, 2) := by decide +kernel
theorem d_LW_law_389 : decode code 389 = .ok (.ifCond .ne 15, 3) := by decide +kernel
theorem d_LW_law_392 : decode code 392 = .ok (.aload_n 3, 1) := by decide +kernel
theorem d_LW_law_393 : decode code 393 = .ok (.iconst 0, 1) := by decide +kernel
theorem d_LW_law_394 : decode code 394 = .ok (.laload, 1) := by decide +kernel
theorem d_LW_law_395 : decode code 395 = .ok (.iload 6, 2) := by decide +kernel
theorem d_LW_law_397 : decode code 397 = .ok (.i2l, 1) := by decide +kernel
theorem d_LW_law_398 : decode code 398 = .ok (.lcmp, 1) := by decide +kernel
theorem d_LW_law_399 : decode code 399 = .ok (.ifCond .eq 5, 3) := by decide +kernel
theorem d_LW_law_402 : decode code 402 = .ok (.iconst 0, 1) := by decide +kernel
theorem d_LW_law_403 : decode code 403 = .ok (.ireturn, 1) := by decide +kernel
theorem d_LW_law_404 : decode code 404 = .ok (.goto 397, 3) := by decide +kernel
theorem d_LW_law_407 : decode code 407 = .ok (.aload_n 1, 1) := by decide +kernel
theorem d_LW_law_408 : decode code 408 = .ok (.aload_n 0, 1) := by decide +kernel
theorem d_LW_law_409 : decode code 409 = .ok (.iload 4, 2) := by decide +kernel
theorem d_LW_law_411 : decode code 411 = .ok (.iconst 1, 1) := by decide +kernel
theorem d_LW_law_412 : decode code 412 = .ok (.iadd, 1) := by decide +kernel
theorem d_LW_law_413 : decode code 413 = .ok (.iaload, 1) := by decide +kernel
theorem d_LW_law_414 : decode code 414 = .ok (.aload_n 0, 1) := by decide +kernel
theorem d_LW_law_415 : decode code 415 = .ok (.iload 4, 2) := by decide +kernel
theorem d_LW_law_417 : decode code 417 = .ok (.iconst 2, 1) := by decide +kernel
theorem d_LW_law_418 : decode code 418 = .ok (.iadd, 1) := by decide +kernel
theorem d_LW_law_419 : decode code 419 = .ok (.iaload, 1) := by decide +kernel
theorem d_LW_law_420 : decode code 420 = .ok (.aload_n 3, 1) := by decide +kernel
theorem d_LW_law_421 : decode code 421 = .ok (.invokestatic 81, 3) := by decide +kernel
theorem d_LW_law_424 : decode code 424 = .ok (.istore 5, 2) := by decide +kernel
theorem d_LW_law_426 : decode code 426 = .ok (.aload_n 2, 1) := by decide +kernel
theorem d_LW_law_427 : decode code 427 = .ok (.aload_n 0, 1) := by decide +kernel
theorem d_LW_law_428 : decode code 428 = .ok (.iload 4, 2) := by decide +kernel
theorem d_LW_law_430 : decode code 430 = .ok (.iconst 1, 1) := by decide +kernel
theorem d_LW_law_431 : decode code 431 = .ok (.iadd, 1) := by decide +kernel
theorem d_LW_law_432 : decode code 432 = .ok (.iaload, 1) := by decide +kernel
theorem d_LW_law_433 : decode code 433 = .ok (.aload_n 0, 1) := by decide +kernel
theorem d_LW_law_434 : decode code 434 = .ok (.iload 4, 2) := by decide +kernel
theorem d_LW_law_436 : decode code 436 = .ok (.iconst 2, 1) := by decide +kernel
theorem d_LW_law_437 : decode code 437 = .ok (.iadd, 1) := by decide +kernel
theorem d_LW_law_438 : decode code 438 = .ok (.iaload, 1) := by decide +kernel
theorem d_LW_law_439 : decode code 439 = .ok (.invokevirtual 83, 3) := by decide +kernel
theorem d_LW_law_442 : decode code 442 = .ok (.istore 6, 2) := by decide +kernel
theorem d_LW_law_444 : decode code 444 = .ok (.aload_n 2, 1) := by decide +kernel
theorem d_LW_law_445 : decode code 445 = .ok (.invokevirtual 67, 3) := by decide +kernel
theorem d_LW_law_448 : decode code 448 = .ok (.iload 5, 2) := by decide +kernel
theorem d_LW_law_450 : decode code 450 = .ok (.if_icmp .eq 5, 3) := by decide +kernel
theorem d_LW_law_453 : decode code 453 = .ok (.iconst 0, 1) := by decide +kernel
theorem d_LW_law_454 : decode code 454 = .ok (.ireturn, 1) := by decide +kernel
theorem d_LW_law_455 : decode code 455 = .ok (.iload 5, 2) := by decide +kernel
theorem d_LW_law_457 : decode code 457 = .ok (.ifCond .ne 15, 3) := by decide +kernel
theorem d_LW_law_460 : decode code 460 = .ok (.aload_n 3, 1) := by decide +kernel
theorem d_LW_law_461 : decode code 461 = .ok (.iconst 0, 1) := by decide +kernel
theorem d_LW_law_462 : decode code 462 = .ok (.laload, 1) := by decide +kernel
theorem d_LW_law_463 : decode code 463 = .ok (.iload 6, 2) := by decide +kernel
theorem d_LW_law_465 : decode code 465 = .ok (.i2l, 1) := by decide +kernel
theorem d_LW_law_466 : decode code 466 = .ok (.lcmp, 1) := by decide +kernel
theorem d_LW_law_467 : decode code 467 = .ok (.ifCond .eq 5, 3) := by decide +kernel
theorem d_LW_law_470 : decode code 470 = .ok (.iconst 0, 1) := by decide +kernel
theorem d_LW_law_471 : decode code 471 = .ok (.ireturn, 1) := by decide +kernel
theorem d_LW_law_472 : decode code 472 = .ok (.goto 329, 3) := by decide +kernel
theorem d_LW_law_475 : decode code 475 = .ok (.aload_n 1, 1) := by decide +kernel
theorem d_LW_law_476 : decode code 476 = .ok (.aload_n 0, 1) := by decide +kernel
theorem d_LW_law_477 : decode code 477 = .ok (.iload 4, 2) := by decide +kernel
theorem d_LW_law_479 : decode code 479 = .ok (.iconst 1, 1) := by decide +kernel
theorem d_LW_law_480 : decode code 480 = .ok (.iadd, 1) := by decide +kernel
theorem d_LW_law_481 : decode code 481 = .ok (.iaload, 1) := by decide +kernel
theorem d_LW_law_482 : decode code 482 = .ok (.aload_n 3, 1) := by decide +kernel
theorem d_LW_law_483 : decode code 483 = .ok (.invokestatic 84, 3) := by decide +kernel
theorem d_LW_law_486 : decode code 486 = .ok (.istore 5, 2) := by decide +kernel
theorem d_LW_law_488 : decode code 488 = .ok (.aload_n 2, 1) := by decide +kernel
theorem d_LW_law_489 : decode code 489 = .ok (.aload_n 0, 1) := by decide +kernel
theorem d_LW_law_490 : decode code 490 = .ok (.iload 4, 2) := by decide +kernel
theorem d_LW_law_492 : decode code 492 = .ok (.iconst 1, 1) := by decide +kernel
theorem d_LW_law_493 : decode code 493 = .ok (.iadd, 1) := by decide +kernel
theorem d_LW_law_494 : decode code 494 = .ok (.iaload, 1) := by decide +kernel
theorem d_LW_law_495 : decode code 495 = .ok (.invokevirtual 86, 3) := by decide +kernel
theorem d_LW_law_498 : decode code 498 = .ok (.istore 6, 2) := by decide +kernel
theorem d_LW_law_500 : decode code 500 = .ok (.aload_n 2, 1) := by decide +kernel
theorem d_LW_law_501 : decode code 501 = .ok (.invokevirtual 67, 3) := by decide +kernel
theorem d_LW_law_504 : decode code 504 = .ok (.iload 5, 2) := by decide +kernel
theorem d_LW_law_506 : decode code 506 = .ok (.if_icmp .eq 5, 3) := by decide +kernel
theorem d_LW_law_509 : decode code 509 = .ok (.iconst 0, 1) := by decide +kernel
theorem d_LW_law_510 : decode code 510 = .ok (.ireturn, 1) := by decide +kernel
theorem d_LW_law_511 : decode code 511 = .ok (.iload 5, 2) := by decide +kernel
theorem d_LW_law_513 : decode code 513 = .ok (.ifCond .ne 15, 3) := by decide +kernel
theorem d_LW_law_516 : decode code 516 = .ok (.aload_n 3, 1) := by decide +kernel
theorem d_LW_law_517 : decode code 517 = .ok (.iconst 0, 1) := by decide +kernel
theorem d_LW_law_518 : decode code 518 = .ok (.laload, 1) := by decide +kernel
theorem d_LW_law_519 : decode code 519 = .ok (.iload 6, 2) := by decide +kernel
theorem d_LW_law_521 : decode code 521 = .ok (.i2l, 1) := by decide +kernel
theorem d_LW_law_522 : decode code 522 = .ok (.lcmp, 1) := by decide +kernel
theorem d_LW_law_523 : decode code 523 = .ok (.ifCond .eq 5, 3) := by decide +kernel
theorem d_LW_law_526 : decode code 526 = .ok (.iconst 0, 1) := by decide +kernel
theorem d_LW_law_527 : decode code 527 = .ok (.ireturn, 1) := by decide +kernel
theorem d_LW_law_528 : decode code 528 = .ok (.goto 273, 3) := by decide +kernel
theorem d_LW_law_531 : decode code 531 = .ok (.aload_n 1, 1) := by decide +kernel
theorem d_LW_law_532 : decode code 532 = .ok (.aload_n 0, 1) := by decide +kernel
theorem d_LW_law_533 : decode code 533 = .ok (.iload 4, 2) := by decide +kernel
theorem d_LW_law_535 : decode code 535 = .ok (.iconst 1, 1) := by decide +kernel
theorem d_LW_law_536 : decode code 536 = .ok (.iadd, 1) := by decide +kernel
theorem d_LW_law_537 : decode code 537 = .ok (.iaload, 1) := by decide +kernel
theorem d_LW_law_538 : decode code 538 = .ok (.aload_n 0, 1) := by decide +kernel
theorem d_LW_law_539 : decode code 539 = .ok (.iload 4, 2) := by decide +kernel
theorem d_LW_law_541 : decode code 541 = .ok (.iconst 2, 1) := by decide +kernel
theorem d_LW_law_542 : decode code 542 = .ok (.iadd, 1) := by decide +kernel
theorem d_LW_law_543 : decode code 543 = .ok (.iaload, 1) := by decide +kernel
theorem d_LW_law_544 : decode code 544 = .ok (.aload_n 3, 1) := by decide +kernel
theorem d_LW_law_545 : decode code 545 = .ok (.invokestatic 87, 3) := by decide +kernel
theorem d_LW_law_548 : decode code 548 = .ok (.istore 5, 2) := by decide +kernel
theorem d_LW_law_550 : decode code 550 = .ok (.aload_n 2, 1) := by decide +kernel
theorem d_LW_law_551 : decode code 551 = .ok (.aload_n 0, 1) := by decide +kernel
theorem d_LW_law_552 : decode code 552 = .ok (.iload 4, 2) := by decide +kernel
theorem d_LW_law_554 : decode code 554 = .ok (.iconst 1, 1) := by decide +kernel
theorem d_LW_law_555 : decode code 555 = .ok (.iadd, 1) := by decide +kernel
theorem d_LW_law_556 : decode code 556 = .ok (.iaload, 1) := by decide +kernel
theorem d_LW_law_557 : decode code 557 = .ok (.aload_n 0, 1) := by decide +kernel
theorem d_LW_law_558 : decode code 558 = .ok (.iload 4, 2) := by decide +kernel
theorem d_LW_law_560 : decode code 560 = .ok (.iconst 2, 1) := by decide +kernel
theorem d_LW_law_561 : decode code 561 = .ok (.iadd, 1) := by decide +kernel
theorem d_LW_law_562 : decode code 562 = .ok (.iaload, 1) := by decide +kernel
theorem d_LW_law_563 : decode code 563 = .ok (.invokevirtual 89, 3) := by decide +kernel
theorem d_LW_law_566 : decode code 566 = .ok (.istore 6, 2) := by decide +kernel
theorem d_LW_law_568 : decode code 568 = .ok (.aload_n 2, 1) := by decide +kernel
theorem d_LW_law_569 : decode code 569 = .ok (.invokevirtual 67, 3) := by decide +kernel
theorem d_LW_law_572 : decode code 572 = .ok (.iload 5, 2) := by decide +kernel
theorem d_LW_law_574 : decode code 574 = .ok (.if_icmp .eq 5, 3) := by decide +kernel
theorem d_LW_law_577 : decode code 577 = .ok (.iconst 0, 1) := by decide +kernel
theorem d_LW_law_578 : decode code 578 = .ok (.ireturn, 1) := by decide +kernel
theorem d_LW_law_579 : decode code 579 = .ok (.iload 5, 2) := by decide +kernel
theorem d_LW_law_581 : decode code 581 = .ok (.ifCond .ne 15, 3) := by decide +kernel
theorem d_LW_law_584 : decode code 584 = .ok (.aload_n 3, 1) := by decide +kernel
theorem d_LW_law_585 : decode code 585 = .ok (.iconst 0, 1) := by decide +kernel
theorem d_LW_law_586 : decode code 586 = .ok (.laload, 1) := by decide +kernel
theorem d_LW_law_587 : decode code 587 = .ok (.iload 6, 2) := by decide +kernel
theorem d_LW_law_589 : decode code 589 = .ok (.i2l, 1) := by decide +kernel
theorem d_LW_law_590 : decode code 590 = .ok (.lcmp, 1) := by decide +kernel
theorem d_LW_law_591 : decode code 591 = .ok (.ifCond .eq 5, 3) := by decide +kernel
theorem d_LW_law_594 : decode code 594 = .ok (.iconst 0, 1) := by decide +kernel
theorem d_LW_law_595 : decode code 595 = .ok (.ireturn, 1) := by decide +kernel
theorem d_LW_law_596 : decode code 596 = .ok (.goto 205, 3) := by decide +kernel
theorem d_LW_law_599 : decode code 599 = .ok (.aload_n 1, 1) := by decide +kernel
theorem d_LW_law_600 : decode code 600 = .ok (.aload_n 0, 1) := by decide +kernel
theorem d_LW_law_601 : decode code 601 = .ok (.iload 4, 2) := by decide +kernel
theorem d_LW_law_603 : decode code 603 = .ok (.iconst 1, 1) := by decide +kernel
theorem d_LW_law_604 : decode code 604 = .ok (.iadd, 1) := by decide +kernel
theorem d_LW_law_605 : decode code 605 = .ok (.iaload, 1) := by decide +kernel
theorem d_LW_law_606 : decode code 606 = .ok (.invokevirtual 90, 3) := by decide +kernel
theorem d_LW_law_609 : decode code 609 = .ok (.aload_n 2, 1) := by decide +kernel
theorem d_LW_law_610 : decode code 610 = .ok (.aload_n 0, 1) := by decide +kernel
theorem d_LW_law_611 : decode code 611 = .ok (.iload 4, 2) := by decide +kernel
theorem d_LW_law_613 : decode code 613 = .ok (.iconst 1, 1) := by decide +kernel
theorem d_LW_law_614 : decode code 614 = .ok (.iadd, 1) := by decide +kernel
theorem d_LW_law_615 : decode code 615 = .ok (.iaload, 1) := by decide +kernel
theorem d_LW_law_616 : decode code 616 = .ok (.invokevirtual 93, 3) := by decide +kernel
theorem d_LW_law_619 : decode code 619 = .ok (.if_icmp .eq 182, 3) := by decide +kernel
theorem d_LW_law_622 : decode code 622 = .ok (.iconst 0, 1) := by decide +kernel
theorem d_LW_law_623 : decode code 623 = .ok (.ireturn, 1) := by decide +kernel
theorem d_LW_law_624 : decode code 624 = .ok (.aload_n 1, 1) := by decide +kernel
theorem d_LW_law_625 : decode code 625 = .ok (.aload_n 3, 1) := by decide +kernel
theorem d_LW_law_626 : decode code 626 = .ok (.invokestatic 94, 3) := by decide +kernel
theorem d_LW_law_629 : decode code 629 = .ok (.istore 5, 2) := by decide +kernel
theorem d_LW_law_631 : decode code 631 = .ok (.aload_n 2, 1) := by decide +kernel
theorem d_LW_law_632 : decode code 632 = .ok (.invokevirtual 97, 3) := by decide +kernel
theorem d_LW_law_635 : decode code 635 = .ok (.istore 6, 2) := by decide +kernel
theorem d_LW_law_637 : decode code 637 = .ok (.aload_n 2, 1) := by decide +kernel
theorem d_LW_law_638 : decode code 638 = .ok (.invokevirtual 67, 3) := by decide +kernel
theorem d_LW_law_641 : decode code 641 = .ok (.iload 5, 2) := by decide +kernel
theorem d_LW_law_643 : decode code 643 = .ok (.if_icmp .eq 5, 3) := by decide +kernel
theorem d_LW_law_646 : decode code 646 = .ok (.iconst 0, 1) := by decide +kernel
theorem d_LW_law_647 : decode code 647 = .ok (.ireturn, 1) := by decide +kernel
theorem d_LW_law_648 : decode code 648 = .ok (.iload 5, 2) := by decide +kernel
theorem d_LW_law_650 : decode code 650 = .ok (.ifCond .ne 15, 3) := by decide +kernel
theorem d_LW_law_653 : decode code 653 = .ok (.aload_n 3, 1) := by decide +kernel
theorem d_LW_law_654 : decode code 654 = .ok (.iconst 0, 1) := by decide +kernel
theorem d_LW_law_655 : decode code 655 = .ok (.laload, 1) := by decide +kernel
theorem d_LW_law_656 : decode code 656 = .ok (.iload 6, 2) := by decide +kernel
theorem d_LW_law_658 : decode code 658 = .ok (.i2l, 1) := by decide +kernel
theorem d_LW_law_659 : decode code 659 = .ok (.lcmp, 1) := by decide +kernel
theorem d_LW_law_660 : decode code 660 = .ok (.ifCond .eq 5, 3) := by decide +kernel
theorem d_LW_law_663 : decode code 663 = .ok (.iconst 0, 1) := by decide +kernel
theorem d_LW_law_664 : decode code 664 = .ok (.ireturn, 1) := by decide +kernel
theorem d_LW_law_665 : decode code 665 = .ok (.goto 136, 3) := by decide +kernel
theorem d_LW_law_668 : decode code 668 = .ok (.aload_n 1, 1) := by decide +kernel
theorem d_LW_law_669 : decode code 669 = .ok (.aload_n 0, 1) := by decide +kernel
theorem d_LW_law_670 : decode code 670 = .ok (.iload 4, 2) := by decide +kernel
theorem d_LW_law_672 : decode code 672 = .ok (.iconst 1, 1) := by decide +kernel
theorem d_LW_law_673 : decode code 673 = .ok (.iadd, 1) := by decide +kernel
theorem d_LW_law_674 : decode code 674 = .ok (.iaload, 1) := by decide +kernel
theorem d_LW_law_675 : decode code 675 = .ok (.aload_n 3, 1) := by decide +kernel
theorem d_LW_law_676 : decode code 676 = .ok (.invokestatic 98, 3) := by decide +kernel
theorem d_LW_law_679 : decode code 679 = .ok (.istore 5, 2) := by decide +kernel
theorem d_LW_law_681 : decode code 681 = .ok (.aload_n 2, 1) := by decide +kernel
theorem d_LW_law_682 : decode code 682 = .ok (.aload_n 0, 1) := by decide +kernel
theorem d_LW_law_683 : decode code 683 = .ok (.iload 4, 2) := by decide +kernel
theorem d_LW_law_685 : decode code 685 = .ok (.iconst 1, 1) := by decide +kernel
theorem d_LW_law_686 : decode code 686 = .ok (.iadd, 1) := by decide +kernel
theorem d_LW_law_687 : decode code 687 = .ok (.iaload, 1) := by decide +kernel
theorem d_LW_law_688 : decode code 688 = .ok (.invokevirtual 100, 3) := by decide +kernel
theorem d_LW_law_691 : decode code 691 = .ok (.istore 6, 2) := by decide +kernel
theorem d_LW_law_693 : decode code 693 = .ok (.aload_n 2, 1) := by decide +kernel
theorem d_LW_law_694 : decode code 694 = .ok (.invokevirtual 67, 3) := by decide +kernel
theorem d_LW_law_697 : decode code 697 = .ok (.iload 5, 2) := by decide +kernel
theorem d_LW_law_699 : decode code 699 = .ok (.if_icmp .eq 5, 3) := by decide +kernel
theorem d_LW_law_702 : decode code 702 = .ok (.iconst 0, 1) := by decide +kernel
theorem d_LW_law_703 : decode code 703 = .ok (.ireturn, 1) := by decide +kernel
theorem d_LW_law_704 : decode code 704 = .ok (.iload 5, 2) := by decide +kernel
theorem d_LW_law_706 : decode code 706 = .ok (.ifCond .ne 22, 3) := by decide +kernel
theorem d_LW_law_709 : decode code 709 = .ok (.aload_n 3, 1) := by decide +kernel
theorem d_LW_law_710 : decode code 710 = .ok (.iconst 0, 1) := by decide +kernel
theorem d_LW_law_711 : decode code 711 = .ok (.laload, 1) := by decide +kernel
theorem d_LW_law_712 : decode code 712 = .ok (.iload 6, 2) := by decide +kernel
theorem d_LW_law_714 : decode code 714 = .ok (.ifCond .eq 7, 3) := by decide +kernel
theorem d_LW_law_717 : decode code 717 = .ok (.lconst 1, 1) := by decide +kernel
theorem d_LW_law_718 : decode code 718 = .ok (.goto 4, 3) := by decide +kernel
theorem d_LW_law_721 : decode code 721 = .ok (.lconst 0, 1) := by decide +kernel
theorem d_LW_law_722 : decode code 722 = .ok (.lcmp, 1) := by decide +kernel
theorem d_LW_law_723 : decode code 723 = .ok (.ifCond .eq 5, 3) := by decide +kernel
theorem d_LW_law_726 : decode code 726 = .ok (.iconst 0, 1) := by decide +kernel
theorem d_LW_law_727 : decode code 727 = .ok (.ireturn, 1) := by decide +kernel
theorem d_LW_law_728 : decode code 728 = .ok (.goto 73, 3) := by decide +kernel
theorem d_LW_law_731 : decode code 731 = .ok (.aload_n 1, 1) := by decide +kernel
theorem d_LW_law_732 : decode code 732 = .ok (.aload_n 0, 1) := by decide +kernel
theorem d_LW_law_733 : decode code 733 = .ok (.iload 4, 2) := by decide +kernel
theorem d_LW_law_735 : decode code 735 = .ok (.iconst 1, 1) := by decide +kernel
theorem d_LW_law_736 : decode code 736 = .ok (.iadd, 1) := by decide +kernel
theorem d_LW_law_737 : decode code 737 = .ok (.iaload, 1) := by decide +kernel
theorem d_LW_law_738 : decode code 738 = .ok (.aload_n 3, 1) := by decide +kernel
theorem d_LW_law_739 : decode code 739 = .ok (.invokestatic 101, 3) := by decide +kernel
theorem d_LW_law_742 : decode code 742 = .ok (.istore 5, 2) := by decide +kernel
theorem d_LW_law_744 : decode code 744 = .ok (.aload_n 2, 1) := by decide +kernel
theorem d_LW_law_745 : decode code 745 = .ok (.aload_n 0, 1) := by decide +kernel
theorem d_LW_law_746 : decode code 746 = .ok (.iload 4, 2) := by decide +kernel
theorem d_LW_law_748 : decode code 748 = .ok (.iconst 1, 1) := by decide +kernel
theorem d_LW_law_749 : decode code 749 = .ok (.iadd, 1) := by decide +kernel
theorem d_LW_law_750 : decode code 750 = .ok (.iaload, 1) := by decide +kernel
theorem d_LW_law_751 : decode code 751 = .ok (.invokevirtual 103, 3) := by decide +kernel
theorem d_LW_law_754 : decode code 754 = .ok (.istore 6, 2) := by decide +kernel
theorem d_LW_law_756 : decode code 756 = .ok (.aload_n 2, 1) := by decide +kernel
theorem d_LW_law_757 : decode code 757 = .ok (.invokevirtual 67, 3) := by decide +kernel
theorem d_LW_law_760 : decode code 760 = .ok (.iload 5, 2) := by decide +kernel
theorem d_LW_law_762 : decode code 762 = .ok (.if_icmp .eq 5, 3) := by decide +kernel
theorem d_LW_law_765 : decode code 765 = .ok (.iconst 0, 1) := by decide +kernel
theorem d_LW_law_766 : decode code 766 = .ok (.ireturn, 1) := by decide +kernel
theorem d_LW_law_767 : decode code 767 = .ok (.iload 5, 2) := by decide +kernel
theorem d_LW_law_769 : decode code 769 = .ok (.ifCond .ne 15, 3) := by decide +kernel
theorem d_LW_law_772 : decode code 772 = .ok (.aload_n 3, 1) := by decide +kernel
theorem d_LW_law_773 : decode code 773 = .ok (.iconst 0, 1) := by decide +kernel
theorem d_LW_law_774 : decode code 774 = .ok (.laload, 1) := by decide +kernel
theorem d_LW_law_775 : decode code 775 = .ok (.iload 6, 2) := by decide +kernel
theorem d_LW_law_777 : decode code 777 = .ok (.i2l, 1) := by decide +kernel
theorem d_LW_law_778 : decode code 778 = .ok (.lcmp, 1) := by decide +kernel
theorem d_LW_law_779 : decode code 779 = .ok (.ifCond .eq 5, 3) := by decide +kernel
theorem d_LW_law_782 : decode code 782 = .ok (.iconst 0, 1) := by decide +kernel
theorem d_LW_law_783 : decode code 783 = .ok (.ireturn, 1) := by decide +kernel
theorem d_LW_law_784 : decode code 784 = .ok (.goto 17, 3) := by decide +kernel
theorem d_LW_law_787 : decode code 787 = .ok (.aload_n 1, 1) := by decide +kernel
theorem d_LW_law_788 : decode code 788 = .ok (.invokevirtual 104, 3) := by decide +kernel
theorem d_LW_law_791 : decode code 791 = .ok (.aload_n 2, 1) := by decide +kernel
theorem d_LW_law_792 : decode code 792 = .ok (.invokevirtual 108, 3) := by decide +kernel
theorem d_LW_law_795 : decode code 795 = .ok (.lcmp, 1) := by decide +kernel
theorem d_LW_law_796 : decode code 796 = .ok (.ifCond .eq 5, 3) := by decide +kernel
theorem d_LW_law_799 : decode code 799 = .ok (.iconst 0, 1) := by decide +kernel
theorem d_LW_law_800 : decode code 800 = .ok (.ireturn, 1) := by decide +kernel
theorem d_LW_law_801 : decode code 801 = .ok (.iinc 4 4, 3) := by decide +kernel
theorem d_LW_law_804 : decode code 804 = .ok (.goto (-781), 3) := by decide +kernel
theorem d_LW_law_807 : decode code 807 = .ok (.iconst 1, 1) := by decide +kernel
theorem d_LW_law_808 : decode code 808 = .ok (.ireturn, 1) := by decide +kernel
