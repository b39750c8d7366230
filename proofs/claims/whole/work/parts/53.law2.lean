theorem fm_noth {B : Nat → Nat} (hL : fm_Len B) {x : Int32} (h : fm_thI B x = false) {c : Nat} (e : x = nI c) (ht : fm_th B c = true) : False := by
  have h1 := fm_le256 hL (Or.inr ht)
  rw [e, fm_thI_n (by omega), ht] at h
  cases h
theorem fm_nIinj {a b : Nat} (ha : a < 2 ^ 31) (hb : b < 2 ^ 31) (h : nI a = nI b) : a = b := (nI_eq ha hb).mp h
set_option maxHeartbeats 4000000 in
set_option maxRecDepth 100000 in
theorem lc_aboutU {pg : Program} {l : Launch} {ev : Env} {s : State} {m : MethodId} {below : List Frame} {meth : Method} {cd : Code} {ab L : Nat} {xs : Nat → Int32} {dC : Nat → ClassId} {dI : Nat → Nat → Nat} {cI cZ cB cL : ClassId} {Q : State → Prop} {cells slots i4 h mo ou : Nat} (CX : fm_CX pg l s m meth cd ab L xs dC dI cI cZ cB cL) (hc : cells + 1 ≤ 1055 ∧ slots + 6 ≤ 36376) (hi : i4 + 4 ≤ L) (k801 : fm_K8 pg l ev s m ab below meth cd dC dI cI cZ cB cL Q cells slots h mo ou i4) {bf ba li pa va na ra o wa sa la sp wb sb lb fa ga mr ka kw : Nat} {n : Nat} {b : Nat → Int32} {rn : Nat} {rw : Nat → Int32} {le : Int32} {cn : Nat} {pd : Nat → Int32} {vl : Nat → Int32} {kn : Nat → Int32} {bc : Int32} {ec : Int32} {sz : Int32} {sc : Int32} {hv : Int32} {w : Nat → Int32} {st : Nat → Int32} {ln : Nat → Int32} {bc2 : Int32} {ec2 : Int32} {sz2 : Int32} {sc2 : Int32} {hv2 : Int32} {w2 : Nat → Int32} {st2 : Nat → Int32} {ln2 : Nat → Int32} {th : Int32} {f : Nat → Int32} {g : Nat → Int32} {s0 : Nat} {rb : Nat → Int32} {kd : Nat → Int32} {wd : Nat → Int32} {ov : Nat → Int64} (hJ : fm_J n b f rn rw rb 0 cn vl kn kd wd g s0 bc ec sz sc hv w st ln) {H : Heap} {locs : List Loc} {ls : Array Slot} (hP : va_P (dC, dI) classes [(h, .inr (3, [.ref bf, .ref li, .ref ra, .int (nI (rn)), .ref o, .ref sp, .int (nI (0))])), (bf, .inr (0, [.ref ba, .int (nI (n))])), (ba, .inl (cI, 2048, .inl (b))), (li, .inr (2, [.ref pa, .ref va, .ref na, .int (le), .int (nI (cn))])), (pa, .inl (cI, 1066, .inl (pd))), (va, .inl (cI, 1066, .inl (vl))), (na, .inl (cZ, 1066, .inl (kn))), (ra, .inl (cI, 64, .inl (rw))), (o, .inr (1, [.ref wa, .ref sa, .ref la, .int (bc), .int (ec), .int (sz), .int (sc), .int (hv)])), (wa, .inl (cI, 2048, .inl (w))), (sa, .inl (cI, 10, .inl (st))), (la, .inl (cI, 10, .inl (ln))), (sp, .inr (1, [.ref wb, .ref sb, .ref lb, .int (bc2), .int (ec2), .int (sz2), .int (sc2), .int (hv2)])), (wb, .inl (cI, 2048, .inl (w2))), (sb, .inl (cI, 10, .inl (st2))), (lb, .inl (cI, 10, .inl (ln2))), (mo, .inr (4, [.int (th), .ref fa, .int (nI (n)), .ref ga, .int (nI (0)), .int (nI (s0)), .ref mr, .int (nI (rn)), .ref ka, .ref kw, .int (nI (cn))])), (fa, .inl (cB, 8192, .inl (f))), (ga, .inl (cB, 8192, .inl (g))), (mr, .inl (cB, 64, .inl (rb))), (ka, .inl (cI, 1100, .inl (kd))), (kw, .inl (cI, 1100, .inl (wd))), (ou, .inl (cL, 1, .inr (.inl (ov))))] H) (hD : va_D (fm_AA s) [(h, .inr (3, [.ref bf, .ref li, .ref ra, .int (nI (rn)), .ref o, .ref sp, .int (nI (0))])), (bf, .inr (0, [.ref ba, .int (nI (n))])), (ba, .inl (cI, 2048, .inl (b))), (li, .inr (2, [.ref pa, .ref va, .ref na, .int (le), .int (nI (cn))])), (pa, .inl (cI, 1066, .inl (pd))), (va, .inl (cI, 1066, .inl (vl))), (na, .inl (cZ, 1066, .inl (kn))), (ra, .inl (cI, 64, .inl (rw))), (o, .inr (1, [.ref wa, .ref sa, .ref la, .int (bc), .int (ec), .int (sz), .int (sc), .int (hv)])), (wa, .inl (cI, 2048, .inl (w))), (sa, .inl (cI, 10, .inl (st))), (la, .inl (cI, 10, .inl (ln))), (sp, .inr (1, [.ref wb, .ref sb, .ref lb, .int (bc2), .int (ec2), .int (sz2), .int (sc2), .int (hv2)])), (wb, .inl (cI, 2048, .inl (w2))), (sb, .inl (cI, 10, .inl (st2))), (lb, .inl (cI, 10, .inl (ln2))), (mo, .inr (4, [.int (th), .ref fa, .int (nI (n)), .ref ga, .int (nI (0)), .int (nI (s0)), .ref mr, .int (nI (rn)), .ref ka, .ref kw, .int (nI (cn))])), (fa, .inl (cB, 8192, .inl (f))), (ga, .inl (cB, 8192, .inl (g))), (mr, .inl (cB, 64, .inl (rb))), (ka, .inl (cI, 1100, .inl (kd))), (kw, .inl (cI, 1100, .inl (wd))), (ou, .inl (cL, 1, .inr (.inl (ov))))]) (hS : va_S (fm_AA s) s.heap H locs) (hl : lv_has ls 7 [(4, .int (nI (i4))), (3, .ref ou), (2, .ref mo), (1, .ref h), (0, .ref ab)]) (x1 : Int32) (hx1 : xs (i4 + 1) = x1) : W pg l ev room_1 s m #[Value.ref ab] below meth cd H locs cells slots Q (F0 m 258 ls []) := by
  obtain ⟨hl0, C0, hL8, hK, hTh, hNc⟩ := id CX
  obtain ⟨hx, hb, hr, hml, hown, hts, hX, hbl, hlocks, hgv⟩ := id C0
  have hbA : ¬ fm_AA s ab := Nat.not_le.mpr hbl
  have ht : ∀ w ∈ fm_T, w.before #[Value.ref ab] s = true := fun w h => hts w (fm_ofT h).1
  have hown : s.vm.findClass R_LW = some m.cls := hown
  have S : CallFix pg m cd code 7 s #[Value.ref ab] (Cond.initialized R_FM :: fm_T) R_LW := ⟨hx, hb, hml, hown, fun w h => (List.mem_cons.mp h).elim (fun e => by rw [e]; exact ht _ q_1_1) (ht w)⟩
  have hf0 : cells ≤ room_1.cells ∧ slots ≤ room_1.slots := ⟨show cells ≤ 1055 by omega, show slots ≤ 36376 by omega⟩
  have hf1 : cells + 1 ≤ room_1.cells ∧ slots + 6 ≤ room_1.slots := hc
  obtain ⟨j1, j2, j3, j4, j5, j6, j7, j8, j9, j10⟩ := id hJ
  refine lv_aload_n hx hb d_LW_law_258 rfl (lv_at hl 3 rfl) ?_
  refine lv_aload_n hx hb d_LW_law_259 rfl (lv_at hl 4 rfl) ?_
  refine lv_iload hx hb d_LW_law_260 (lv_at hl 0 rfl) ?_
  refine lv_iconst (v := nI (1)) hx hb d_LW_law_262 (by decide) ?_
  refine lv_iadd hx hb d_LW_law_263 ?_
  refine fm_tw (z := nI (i4 + 1)) (nI_add _ _) ?_
  refine va_sld hx hb hX hbl hbA hS (vp_in_nI (by omega) (by omega)) d_LW_law_264 ?_
  refine fm_tw (z := (x1)) (by rw [nI_clamp (by omega)]; exact hx1) ?_
  refine lv_aload_n hx hb d_LW_law_265 rfl (lv_at hl 1 rfl) ?_
  refine fm_csw S (x_LW_aboutU l hl0 dC dI h bf li ra (nI (rn)) o sp x1 ou ) rfl rfl k_LW_about q_2_143 ⟨Nat.le_of_ble_eq_true rfl, Nat.le_of_ble_eq_true rfl⟩ hP hS (hK.sub [] rfl) (hTh _ _ hS) hNc [0] rfl rfl hl.1 rfl (Nat.le_of_ble_eq_true rfl) hf1 d_LW_law_266 (fun H hz9 hk9 hP hS => ?_)
  refine lv_istore (lv' := [(5, .int (nI (1))), (4, .int (nI (i4))), (3, .ref ou), (2, .ref mo), (1, .ref h), (0, .ref ab)]) hx hb d_LW_law_269 hl (by decide) rfl (fun ls hl => ?_)
  refine lv_aload_n hx hb d_LW_law_271 rfl (lv_at hl 3 rfl) ?_
  refine lv_aload_n hx hb d_LW_law_272 rfl (lv_at hl 5 rfl) ?_
  refine lv_iload hx hb d_LW_law_273 (lv_at hl 1 rfl) ?_
  refine lv_iconst (v := nI (1)) hx hb d_LW_law_275 (by decide) ?_
  refine lv_iadd hx hb d_LW_law_276 ?_
  refine fm_tw (z := nI (i4 + 1)) (nI_add _ _) ?_
  refine va_sld hx hb hX hbl hbA hS (vp_in_nI (by omega) (by omega)) d_LW_law_277 ?_
  refine fm_tw (z := (x1)) (by rw [nI_clamp (by omega)]; exact hx1) ?_
  refine fm_wvP S (c_MO_aboutU l dC dI mo th fa (nI (n)) ga (nI (s0)) mr (nI (rn)) ka kw (nI (cn)) x1 ) rfl rfl k_MO_about q_3_227 ⟨Nat.le_of_ble_eq_true rfl, Nat.le_of_ble_eq_true rfl⟩ hP hD hS (hK.sub [] rfl) [16] (by decide) (by decide) rfl 0 rfl rfl rfl hl.1 rfl (Nat.le_of_ble_eq_true rfl) hf1 d_LW_law_278 rfl (fun H locs hP hD hS => ?_)
  have hP : va_P (dC, dI) classes [(h, .inr (3, [.ref bf, .ref li, .ref ra, .int (nI (rn)), .ref o, .ref sp, .int (nI (0))])), (bf, .inr (0, [.ref ba, .int (nI (n))])), (ba, .inl (cI, 2048, .inl (b))), (li, .inr (2, [.ref pa, .ref va, .ref na, .int (le), .int (nI (cn))])), (pa, .inl (cI, 1066, .inl (pd))), (va, .inl (cI, 1066, .inl (vl))), (na, .inl (cZ, 1066, .inl (kn))), (ra, .inl (cI, 64, .inl (rw))), (o, .inr (1, [.ref wa, .ref sa, .ref la, .int (bc), .int (ec), .int (sz), .int (sc), .int (hv)])), (wa, .inl (cI, 2048, .inl (w))), (sa, .inl (cI, 10, .inl (st))), (la, .inl (cI, 10, .inl (ln))), (sp, .inr (1, [.ref wb, .ref sb, .ref lb, .int (bc2), .int (ec2), .int (sz2), .int (sc2), .int (hv2)])), (wb, .inl (cI, 2048, .inl (w2))), (sb, .inl (cI, 10, .inl (st2))), (lb, .inl (cI, 10, .inl (ln2))), (mo, .inr (4, [.int (nI (1)), .ref fa, .int (nI (n)), .ref ga, .int (nI (0)), .int (nI (s0)), .ref mr, .int (nI (rn)), .ref ka, .ref kw, .int (nI (cn))])), (fa, .inl (cB, 8192, .inl (f))), (ga, .inl (cB, 8192, .inl (g))), (mr, .inl (cB, 64, .inl (rb))), (ka, .inl (cI, 1100, .inl (kd))), (kw, .inl (cI, 1100, .inl (wd))), (ou, .inl (cL, 1, .inr (.inl (ov))))] _ := hP
  have hD : va_D (fm_AA s) [(h, .inr (3, [.ref bf, .ref li, .ref ra, .int (nI (rn)), .ref o, .ref sp, .int (nI (0))])), (bf, .inr (0, [.ref ba, .int (nI (n))])), (ba, .inl (cI, 2048, .inl (b))), (li, .inr (2, [.ref pa, .ref va, .ref na, .int (le), .int (nI (cn))])), (pa, .inl (cI, 1066, .inl (pd))), (va, .inl (cI, 1066, .inl (vl))), (na, .inl (cZ, 1066, .inl (kn))), (ra, .inl (cI, 64, .inl (rw))), (o, .inr (1, [.ref wa, .ref sa, .ref la, .int (bc), .int (ec), .int (sz), .int (sc), .int (hv)])), (wa, .inl (cI, 2048, .inl (w))), (sa, .inl (cI, 10, .inl (st))), (la, .inl (cI, 10, .inl (ln))), (sp, .inr (1, [.ref wb, .ref sb, .ref lb, .int (bc2), .int (ec2), .int (sz2), .int (sc2), .int (hv2)])), (wb, .inl (cI, 2048, .inl (w2))), (sb, .inl (cI, 10, .inl (st2))), (lb, .inl (cI, 10, .inl (ln2))), (mo, .inr (4, [.int (nI (1)), .ref fa, .int (nI (n)), .ref ga, .int (nI (0)), .int (nI (s0)), .ref mr, .int (nI (rn)), .ref ka, .ref kw, .int (nI (cn))])), (fa, .inl (cB, 8192, .inl (f))), (ga, .inl (cB, 8192, .inl (g))), (mr, .inl (cB, 64, .inl (rb))), (ka, .inl (cI, 1100, .inl (kd))), (kw, .inl (cI, 1100, .inl (wd))), (ou, .inl (cL, 1, .inr (.inl (ov))))] := hD
  refine lv_istore (lv' := [(6, .int (nI (0))), (5, .int (nI (1))), (4, .int (nI (i4))), (3, .ref ou), (2, .ref mo), (1, .ref h), (0, .ref ab)]) hx hb d_LW_law_281 hl (by decide) rfl (fun ls hl => ?_)
  refine lv_aload_n hx hb d_LW_law_283 rfl (lv_at hl 4 rfl) ?_
  refine fm_cv S (c_MO_thrown l dC dI mo (nI (1)) fa (nI (n)) ga (nI (0)) (nI (s0)) mr (nI (rn)) ka kw (nI (cn)) ) rfl rfl k_MO_thrown q_3_147 ⟨Nat.le_of_ble_eq_true rfl, Nat.le_of_ble_eq_true rfl⟩ (hP.sub [16] rfl) (hK.sub [] rfl) 0 rfl rfl rfl hl.1 rfl (Nat.le_of_ble_eq_true rfl) hf1 d_LW_law_284 ?_
  refine lv_iload hx hb d_LW_law_287 (lv_at hl 1 rfl) ?_
  refine lv_icmp_eq (tgt := 294) hx hb d_LW_law_289 (by decide) (fun c0 => ?_) (fun c0 => ?_)
  · have c_289 : 1 = 1 := (nI_eq (a := 1) (b := 1) (by omega) (by omega)).mp c0
    refine lv_iload hx hb d_LW_law_294 (lv_at hl 1 rfl) ?_
    refine lv_if_ne (tgt := 311) hx hb d_LW_law_296 (by decide) (fun c0 => ?_) (fun c0 => ?_)
    · have c_296 : ¬ (1 = 0) := fun z => c0 ((nI_eq (a := 1) (b := 0) (by omega) (by omega)).mpr z)
      refine lv_goto (tgt := 801) hx hb d_LW_law_311 (by decide) ?_
      refine W.widen (k := cells + 1) (n := slots + 6) (by omega) (by omega) ?_
      exact k801 _ _ _ ⟨bf, ba, li, pa, va, na, ra, o, wa, sa, la, sp, wb, sb, lb, fa, ga, mr, ka, kw, n, b, rn, rw, 0, ((le)), cn, pd, vl, kn, ((bc)), ((ec)), ((sz)), ((sc)), ((hv)), w, st, ln, ((bc2)), ((ec2)), ((sz2)), ((sc2)), ((hv2)), w2, st2, ln2, (nI (1)), f, g, s0, rb, kd, wd, ov, hJ, hP, hD, hS⟩ (lv_sub hl [2, 3, 4, 5, 6] rfl)
    · have c_296 : 1 = 0 := (nI_eq (a := 1) (b := 0) (by omega) (by omega)).mp c0
      exact absurd c_296 (by decide)
  · have c_289 : ¬ (1 = 1) := fun z => c0 ((nI_eq (a := 1) (b := 1) (by omega) (by omega)).mpr z)
    exact absurd c_289 (by decide)
set_option maxHeartbeats 4000000 in
set_option maxRecDepth 100000 in
theorem lc_parameterU {pg : Program} {l : Launch} {ev : Env} {s : State} {m : MethodId} {below : List Frame} {meth : Method} {cd : Code} {ab L : Nat} {xs : Nat → Int32} {dC : Nat → ClassId} {dI : Nat → Nat → Nat} {cI cZ cB cL : ClassId} {Q : State → Prop} {cells slots i4 h mo ou : Nat} (CX : fm_CX pg l s m meth cd ab L xs dC dI cI cZ cB cL) (hc : cells + 1 ≤ 1055 ∧ slots + 6 ≤ 36376) (hi : i4 + 4 ≤ L) (k801 : fm_K8 pg l ev s m ab below meth cd dC dI cI cZ cB cL Q cells slots h mo ou i4) {bf ba li pa va na ra o wa sa la sp wb sb lb fa ga mr ka kw : Nat} {n : Nat} {b : Nat → Int32} {rn : Nat} {rw : Nat → Int32} {le : Int32} {cn : Nat} {pd : Nat → Int32} {vl : Nat → Int32} {kn : Nat → Int32} {bc : Int32} {ec : Int32} {sz : Int32} {sc : Int32} {hv : Int32} {w : Nat → Int32} {st : Nat → Int32} {ln : Nat → Int32} {bc2 : Int32} {ec2 : Int32} {sz2 : Int32} {sc2 : Int32} {hv2 : Int32} {w2 : Nat → Int32} {st2 : Nat → Int32} {ln2 : Nat → Int32} {th : Int32} {f : Nat → Int32} {g : Nat → Int32} {s0 : Nat} {rb : Nat → Int32} {kd : Nat → Int32} {wd : Nat → Int32} {ov : Nat → Int64} (hJ : fm_J n b f rn rw rb 0 cn vl kn kd wd g s0 bc ec sz sc hv w st ln) {H : Heap} {locs : List Loc} {ls : Array Slot} (hP : va_P (dC, dI) classes [(h, .inr (3, [.ref bf, .ref li, .ref ra, .int (nI (rn)), .ref o, .ref sp, .int (nI (0))])), (bf, .inr (0, [.ref ba, .int (nI (n))])), (ba, .inl (cI, 2048, .inl (b))), (li, .inr (2, [.ref pa, .ref va, .ref na, .int (le), .int (nI (cn))])), (pa, .inl (cI, 1066, .inl (pd))), (va, .inl (cI, 1066, .inl (vl))), (na, .inl (cZ, 1066, .inl (kn))), (ra, .inl (cI, 64, .inl (rw))), (o, .inr (1, [.ref wa, .ref sa, .ref la, .int (bc), .int (ec), .int (sz), .int (sc), .int (hv)])), (wa, .inl (cI, 2048, .inl (w))), (sa, .inl (cI, 10, .inl (st))), (la, .inl (cI, 10, .inl (ln))), (sp, .inr (1, [.ref wb, .ref sb, .ref lb, .int (bc2), .int (ec2), .int (sz2), .int (sc2), .int (hv2)])), (wb, .inl (cI, 2048, .inl (w2))), (sb, .inl (cI, 10, .inl (st2))), (lb, .inl (cI, 10, .inl (ln2))), (mo, .inr (4, [.int (th), .ref fa, .int (nI (n)), .ref ga, .int (nI (0)), .int (nI (s0)), .ref mr, .int (nI (rn)), .ref ka, .ref kw, .int (nI (cn))])), (fa, .inl (cB, 8192, .inl (f))), (ga, .inl (cB, 8192, .inl (g))), (mr, .inl (cB, 64, .inl (rb))), (ka, .inl (cI, 1100, .inl (kd))), (kw, .inl (cI, 1100, .inl (wd))), (ou, .inl (cL, 1, .inr (.inl (ov))))] H) (hD : va_D (fm_AA s) [(h, .inr (3, [.ref bf, .ref li, .ref ra, .int (nI (rn)), .ref o, .ref sp, .int (nI (0))])), (bf, .inr (0, [.ref ba, .int (nI (n))])), (ba, .inl (cI, 2048, .inl (b))), (li, .inr (2, [.ref pa, .ref va, .ref na, .int (le), .int (nI (cn))])), (pa, .inl (cI, 1066, .inl (pd))), (va, .inl (cI, 1066, .inl (vl))), (na, .inl (cZ, 1066, .inl (kn))), (ra, .inl (cI, 64, .inl (rw))), (o, .inr (1, [.ref wa, .ref sa, .ref la, .int (bc), .int (ec), .int (sz), .int (sc), .int (hv)])), (wa, .inl (cI, 2048, .inl (w))), (sa, .inl (cI, 10, .inl (st))), (la, .inl (cI, 10, .inl (ln))), (sp, .inr (1, [.ref wb, .ref sb, .ref lb, .int (bc2), .int (ec2), .int (sz2), .int (sc2), .int (hv2)])), (wb, .inl (cI, 2048, .inl (w2))), (sb, .inl (cI, 10, .inl (st2))), (lb, .inl (cI, 10, .inl (ln2))), (mo, .inr (4, [.int (th), .ref fa, .int (nI (n)), .ref ga, .int (nI (0)), .int (nI (s0)), .ref mr, .int (nI (rn)), .ref ka, .ref kw, .int (nI (cn))])), (fa, .inl (cB, 8192, .inl (f))), (ga, .inl (cB, 8192, .inl (g))), (mr, .inl (cB, 64, .inl (rb))), (ka, .inl (cI, 1100, .inl (kd))), (kw, .inl (cI, 1100, .inl (wd))), (ou, .inl (cL, 1, .inr (.inl (ov))))]) (hS : va_S (fm_AA s) s.heap H locs) (hl : lv_has ls 7 [(4, .int (nI (i4))), (3, .ref ou), (2, .ref mo), (1, .ref h), (0, .ref ab)]) (x1 : Int32) (hx1 : xs (i4 + 1) = x1) : W pg l ev room_1 s m #[Value.ref ab] below meth cd H locs cells slots Q (F0 m 475 ls []) := by
  obtain ⟨hl0, C0, hL8, hK, hTh, hNc⟩ := id CX
  obtain ⟨hx, hb, hr, hml, hown, hts, hX, hbl, hlocks, hgv⟩ := id C0
  have hbA : ¬ fm_AA s ab := Nat.not_le.mpr hbl
  have ht : ∀ w ∈ fm_T, w.before #[Value.ref ab] s = true := fun w h => hts w (fm_ofT h).1
  have hown : s.vm.findClass R_LW = some m.cls := hown
  have S : CallFix pg m cd code 7 s #[Value.ref ab] (Cond.initialized R_FM :: fm_T) R_LW := ⟨hx, hb, hml, hown, fun w h => (List.mem_cons.mp h).elim (fun e => by rw [e]; exact ht _ q_1_1) (ht w)⟩
  have hf0 : cells ≤ room_1.cells ∧ slots ≤ room_1.slots := ⟨show cells ≤ 1055 by omega, show slots ≤ 36376 by omega⟩
  have hf1 : cells + 1 ≤ room_1.cells ∧ slots + 6 ≤ room_1.slots := hc
  obtain ⟨j1, j2, j3, j4, j5, j6, j7, j8, j9, j10⟩ := id hJ
  refine lv_aload_n hx hb d_LW_law_475 rfl (lv_at hl 3 rfl) ?_
  refine lv_aload_n hx hb d_LW_law_476 rfl (lv_at hl 4 rfl) ?_
  refine lv_iload hx hb d_LW_law_477 (lv_at hl 0 rfl) ?_
  refine lv_iconst (v := nI (1)) hx hb d_LW_law_479 (by decide) ?_
  refine lv_iadd hx hb d_LW_law_480 ?_
  refine fm_tw (z := nI (i4 + 1)) (nI_add _ _) ?_
  refine va_sld hx hb hX hbl hbA hS (vp_in_nI (by omega) (by omega)) d_LW_law_481 ?_
  refine fm_tw (z := (x1)) (by rw [nI_clamp (by omega)]; exact hx1) ?_
  refine lv_aload_n hx hb d_LW_law_482 rfl (lv_at hl 1 rfl) ?_
  refine fm_csw S (x_LW_parameterU l hl0 dC dI h bf li ra (nI (rn)) o sp x1 ou ) rfl rfl k_LW_parameter q_2_237 ⟨Nat.le_of_ble_eq_true rfl, Nat.le_of_ble_eq_true rfl⟩ hP hS (hK.sub [] rfl) (hTh _ _ hS) hNc [0] rfl rfl hl.1 rfl (Nat.le_of_ble_eq_true rfl) hf1 d_LW_law_483 (fun H hz9 hk9 hP hS => ?_)
  refine lv_istore (lv' := [(5, .int (nI (1))), (4, .int (nI (i4))), (3, .ref ou), (2, .ref mo), (1, .ref h), (0, .ref ab)]) hx hb d_LW_law_486 hl (by decide) rfl (fun ls hl => ?_)
  refine lv_aload_n hx hb d_LW_law_488 rfl (lv_at hl 3 rfl) ?_
  refine lv_aload_n hx hb d_LW_law_489 rfl (lv_at hl 5 rfl) ?_
  refine lv_iload hx hb d_LW_law_490 (lv_at hl 1 rfl) ?_
  refine lv_iconst (v := nI (1)) hx hb d_LW_law_492 (by decide) ?_
  refine lv_iadd hx hb d_LW_law_493 ?_
  refine fm_tw (z := nI (i4 + 1)) (nI_add _ _) ?_
  refine va_sld hx hb hX hbl hbA hS (vp_in_nI (by omega) (by omega)) d_LW_law_494 ?_
  refine fm_tw (z := (x1)) (by rw [nI_clamp (by omega)]; exact hx1) ?_
  refine fm_wvP S (c_MO_parameterU l dC dI mo th fa (nI (n)) ga (nI (s0)) mr (nI (rn)) ka kw (nI (cn)) x1 ) rfl rfl k_MO_parameter q_4_18 ⟨Nat.le_of_ble_eq_true rfl, Nat.le_of_ble_eq_true rfl⟩ hP hD hS (hK.sub [] rfl) [16] (by decide) (by decide) rfl 0 rfl rfl rfl hl.1 rfl (Nat.le_of_ble_eq_true rfl) hf1 d_LW_law_495 rfl (fun H locs hP hD hS => ?_)
  have hP : va_P (dC, dI) classes [(h, .inr (3, [.ref bf, .ref li, .ref ra, .int (nI (rn)), .ref o, .ref sp, .int (nI (0))])), (bf, .inr (0, [.ref ba, .int (nI (n))])), (ba, .inl (cI, 2048, .inl (b))), (li, .inr (2, [.ref pa, .ref va, .ref na, .int (le), .int (nI (cn))])), (pa, .inl (cI, 1066, .inl (pd))), (va, .inl (cI, 1066, .inl (vl))), (na, .inl (cZ, 1066, .inl (kn))), (ra, .inl (cI, 64, .inl (rw))), (o, .inr (1, [.ref wa, .ref sa, .ref la, .int (bc), .int (ec), .int (sz), .int (sc), .int (hv)])), (wa, .inl (cI, 2048, .inl (w))), (sa, .inl (cI, 10, .inl (st))), (la, .inl (cI, 10, .inl (ln))), (sp, .inr (1, [.ref wb, .ref sb, .ref lb, .int (bc2), .int (ec2), .int (sz2), .int (sc2), .int (hv2)])), (wb, .inl (cI, 2048, .inl (w2))), (sb, .inl (cI, 10, .inl (st2))), (lb, .inl (cI, 10, .inl (ln2))), (mo, .inr (4, [.int (nI (1)), .ref fa, .int (nI (n)), .ref ga, .int (nI (0)), .int (nI (s0)), .ref mr, .int (nI (rn)), .ref ka, .ref kw, .int (nI (cn))])), (fa, .inl (cB, 8192, .inl (f))), (ga, .inl (cB, 8192, .inl (g))), (mr, .inl (cB, 64, .inl (rb))), (ka, .inl (cI, 1100, .inl (kd))), (kw, .inl (cI, 1100, .inl (wd))), (ou, .inl (cL, 1, .inr (.inl (ov))))] _ := hP
  have hD : va_D (fm_AA s) [(h, .inr (3, [.ref bf, .ref li, .ref ra, .int (nI (rn)), .ref o, .ref sp, .int (nI (0))])), (bf, .inr (0, [.ref ba, .int (nI (n))])), (ba, .inl (cI, 2048, .inl (b))), (li, .inr (2, [.ref pa, .ref va, .ref na, .int (le), .int (nI (cn))])), (pa, .inl (cI, 1066, .inl (pd))), (va, .inl (cI, 1066, .inl (vl))), (na, .inl (cZ, 1066, .inl (kn))), (ra, .inl (cI, 64, .inl (rw))), (o, .inr (1, [.ref wa, .ref sa, .ref la, .int (bc), .int (ec), .int (sz), .int (sc), .int (hv)])), (wa, .inl (cI, 2048, .inl (w))), (sa, .inl (cI, 10, .inl (st))), (la, .inl (cI, 10, .inl (ln))), (sp, .inr (1, [.ref wb, .ref sb, .ref lb, .int (bc2), .int (ec2), .int (sz2), .int (sc2), .int (hv2)])), (wb, .inl (cI, 2048, .inl (w2))), (sb, .inl (cI, 10, .inl (st2))), (lb, .inl (cI, 10, .inl (ln2))), (mo, .inr (4, [.int (nI (1)), .ref fa, .int (nI (n)), .ref ga, .int (nI (0)), .int (nI (s0)), .ref mr, .int (nI (rn)), .ref ka, .ref kw, .int (nI (cn))])), (fa, .inl (cB, 8192, .inl (f))), (ga, .inl (cB, 8192, .inl (g))), (mr, .inl (cB, 64, .inl (rb))), (ka, .inl (cI, 1100, .inl (kd))), (kw, .inl (cI, 1100, .inl (wd))), (ou, .inl (cL, 1, .inr (.inl (ov))))] := hD
  refine lv_istore (lv' := [(6, .int (nI (0))), (5, .int (nI (1))), (4, .int (nI (i4))), (3, .ref ou), (2, .ref mo), (1, .ref h), (0, .ref ab)]) hx hb d_LW_law_498 hl (by decide) rfl (fun ls hl => ?_)
  refine lv_aload_n hx hb d_LW_law_500 rfl (lv_at hl 4 rfl) ?_
  refine fm_cv S (c_MO_thrown l dC dI mo (nI (1)) fa (nI (n)) ga (nI (0)) (nI (s0)) mr (nI (rn)) ka kw (nI (cn)) ) rfl rfl k_MO_thrown q_3_147 ⟨Nat.le_of_ble_eq_true rfl, Nat.le_of_ble_eq_true rfl⟩ (hP.sub [16] rfl) (hK.sub [] rfl) 0 rfl rfl rfl hl.1 rfl (Nat.le_of_ble_eq_true rfl) hf1 d_LW_law_501 ?_
  refine lv_iload hx hb d_LW_law_504 (lv_at hl 1 rfl) ?_
  refine lv_icmp_eq (tgt := 511) hx hb d_LW_law_506 (by decide) (fun c0 => ?_) (fun c0 => ?_)
  · have c_506 : 1 = 1 := (nI_eq (a := 1) (b := 1) (by omega) (by omega)).mp c0
    refine lv_iload hx hb d_LW_law_511 (lv_at hl 1 rfl) ?_
    refine lv_if_ne (tgt := 528) hx hb d_LW_law_513 (by decide) (fun c0 => ?_) (fun c0 => ?_)
    · have c_513 : ¬ (1 = 0) := fun z => c0 ((nI_eq (a := 1) (b := 0) (by omega) (by omega)).mpr z)
      refine lv_goto (tgt := 801) hx hb d_LW_law_528 (by decide) ?_
      refine W.widen (k := cells + 1) (n := slots + 6) (by omega) (by omega) ?_
      exact k801 _ _ _ ⟨bf, ba, li, pa, va, na, ra, o, wa, sa, la, sp, wb, sb, lb, fa, ga, mr, ka, kw, n, b, rn, rw, 0, ((le)), cn, pd, vl, kn, ((bc)), ((ec)), ((sz)), ((sc)), ((hv)), w, st, ln, ((bc2)), ((ec2)), ((sz2)), ((sc2)), ((hv2)), w2, st2, ln2, (nI (1)), f, g, s0, rb, kd, wd, ov, hJ, hP, hD, hS⟩ (lv_sub hl [2, 3, 4, 5, 6] rfl)
    · have c_513 : 1 = 0 := (nI_eq (a := 1) (b := 0) (by omega) (by omega)).mp c0
      exact absurd c_513 (by decide)
  · have c_506 : ¬ (1 = 1) := fun z => c0 ((nI_eq (a := 1) (b := 1) (by omega) (by omega)).mpr z)
    exact absurd c_506 (by decide)
set_option maxHeartbeats 4000000 in
set_option maxRecDepth 100000 in
theorem lc_ofU {pg : Program} {l : Launch} {ev : Env} {s : State} {m : MethodId} {below : List Frame} {meth : Method} {cd : Code} {ab L : Nat} {xs : Nat → Int32} {dC : Nat → ClassId} {dI : Nat → Nat → Nat} {cI cZ cB cL : ClassId} {Q : State → Prop} {cells slots i4 h mo ou : Nat} (CX : fm_CX pg l s m meth cd ab L xs dC dI cI cZ cB cL) (hc : cells + 1 ≤ 1055 ∧ slots + 6 ≤ 36376) (hi : i4 + 4 ≤ L) (k801 : fm_K8 pg l ev s m ab below meth cd dC dI cI cZ cB cL Q cells slots h mo ou i4) {bf ba li pa va na ra o wa sa la sp wb sb lb fa ga mr ka kw : Nat} {n : Nat} {b : Nat → Int32} {rn : Nat} {rw : Nat → Int32} {le : Int32} {cn : Nat} {pd : Nat → Int32} {vl : Nat → Int32} {kn : Nat → Int32} {bc : Int32} {ec : Int32} {sz : Int32} {sc : Int32} {hv : Int32} {w : Nat → Int32} {st : Nat → Int32} {ln : Nat → Int32} {bc2 : Int32} {ec2 : Int32} {sz2 : Int32} {sc2 : Int32} {hv2 : Int32} {w2 : Nat → Int32} {st2 : Nat → Int32} {ln2 : Nat → Int32} {th : Int32} {f : Nat → Int32} {g : Nat → Int32} {s0 : Nat} {rb : Nat → Int32} {kd : Nat → Int32} {wd : Nat → Int32} {ov : Nat → Int64} (hJ : fm_J n b f rn rw rb 0 cn vl kn kd wd g s0 bc ec sz sc hv w st ln) {H : Heap} {locs : List Loc} {ls : Array Slot} (hP : va_P (dC, dI) classes [(h, .inr (3, [.ref bf, .ref li, .ref ra, .int (nI (rn)), .ref o, .ref sp, .int (nI (0))])), (bf, .inr (0, [.ref ba, .int (nI (n))])), (ba, .inl (cI, 2048, .inl (b))), (li, .inr (2, [.ref pa, .ref va, .ref na, .int (le), .int (nI (cn))])), (pa, .inl (cI, 1066, .inl (pd))), (va, .inl (cI, 1066, .inl (vl))), (na, .inl (cZ, 1066, .inl (kn))), (ra, .inl (cI, 64, .inl (rw))), (o, .inr (1, [.ref wa, .ref sa, .ref la, .int (bc), .int (ec), .int (sz), .int (sc), .int (hv)])), (wa, .inl (cI, 2048, .inl (w))), (sa, .inl (cI, 10, .inl (st))), (la, .inl (cI, 10, .inl (ln))), (sp, .inr (1, [.ref wb, .ref sb, .ref lb, .int (bc2), .int (ec2), .int (sz2), .int (sc2), .int (hv2)])), (wb, .inl (cI, 2048, .inl (w2))), (sb, .inl (cI, 10, .inl (st2))), (lb, .inl (cI, 10, .inl (ln2))), (mo, .inr (4, [.int (th), .ref fa, .int (nI (n)), .ref ga, .int (nI (0)), .int (nI (s0)), .ref mr, .int (nI (rn)), .ref ka, .ref kw, .int (nI (cn))])), (fa, .inl (cB, 8192, .inl (f))), (ga, .inl (cB, 8192, .inl (g))), (mr, .inl (cB, 64, .inl (rb))), (ka, .inl (cI, 1100, .inl (kd))), (kw, .inl (cI, 1100, .inl (wd))), (ou, .inl (cL, 1, .inr (.inl (ov))))] H) (hD : va_D (fm_AA s) [(h, .inr (3, [.ref bf, .ref li, .ref ra, .int (nI (rn)), .ref o, .ref sp, .int (nI (0))])), (bf, .inr (0, [.ref ba, .int (nI (n))])), (ba, .inl (cI, 2048, .inl (b))), (li, .inr (2, [.ref pa, .ref va, .ref na, .int (le), .int (nI (cn))])), (pa, .inl (cI, 1066, .inl (pd))), (va, .inl (cI, 1066, .inl (vl))), (na, .inl (cZ, 1066, .inl (kn))), (ra, .inl (cI, 64, .inl (rw))), (o, .inr (1, [.ref wa, .ref sa, .ref la, .int (bc), .int (ec), .int (sz), .int (sc), .int (hv)])), (wa, .inl (cI, 2048, .inl (w))), (sa, .inl (cI, 10, .inl (st))), (la, .inl (cI, 10, .inl (ln))), (sp, .inr (1, [.ref wb, .ref sb, .ref lb, .int (bc2), .int (ec2), .int (sz2), .int (sc2), .int (hv2)])), (wb, .inl (cI, 2048, .inl (w2))), (sb, .inl (cI, 10, .inl (st2))), (lb, .inl (cI, 10, .inl (ln2))), (mo, .inr (4, [.int (th), .ref fa, .int (nI (n)), .ref ga, .int (nI (0)), .int (nI (s0)), .ref mr, .int (nI (rn)), .ref ka, .ref kw, .int (nI (cn))])), (fa, .inl (cB, 8192, .inl (f))), (ga, .inl (cB, 8192, .inl (g))), (mr, .inl (cB, 64, .inl (rb))), (ka, .inl (cI, 1100, .inl (kd))), (kw, .inl (cI, 1100, .inl (wd))), (ou, .inl (cL, 1, .inr (.inl (ov))))]) (hS : va_S (fm_AA s) s.heap H locs) (hl : lv_has ls 7 [(4, .int (nI (i4))), (3, .ref ou), (2, .ref mo), (1, .ref h), (0, .ref ab)]) (x1 : Int32) (x2 : Int32) (hx1 : xs (i4 + 1) = x1) (hx2 : xs (i4 + 2) = x2) : W pg l ev room_1 s m #[Value.ref ab] below meth cd H locs cells slots Q (F0 m 339 ls []) := by
  obtain ⟨hl0, C0, hL8, hK, hTh, hNc⟩ := id CX
  obtain ⟨hx, hb, hr, hml, hown, hts, hX, hbl, hlocks, hgv⟩ := id C0
  have hbA : ¬ fm_AA s ab := Nat.not_le.mpr hbl
  have ht : ∀ w ∈ fm_T, w.before #[Value.ref ab] s = true := fun w h => hts w (fm_ofT h).1
  have hown : s.vm.findClass R_LW = some m.cls := hown
  have S : CallFix pg m cd code 7 s #[Value.ref ab] (Cond.initialized R_FM :: fm_T) R_LW := ⟨hx, hb, hml, hown, fun w h => (List.mem_cons.mp h).elim (fun e => by rw [e]; exact ht _ q_1_1) (ht w)⟩
  have hf0 : cells ≤ room_1.cells ∧ slots ≤ room_1.slots := ⟨show cells ≤ 1055 by omega, show slots ≤ 36376 by omega⟩
  have hf1 : cells + 1 ≤ room_1.cells ∧ slots + 6 ≤ room_1.slots := hc
  obtain ⟨j1, j2, j3, j4, j5, j6, j7, j8, j9, j10⟩ := id hJ
  refine lv_aload_n hx hb d_LW_law_339 rfl (lv_at hl 3 rfl) ?_
  refine lv_aload_n hx hb d_LW_law_340 rfl (lv_at hl 4 rfl) ?_
  refine lv_iload hx hb d_LW_law_341 (lv_at hl 0 rfl) ?_
  refine lv_iconst (v := nI (1)) hx hb d_LW_law_343 (by decide) ?_
  refine lv_iadd hx hb d_LW_law_344 ?_
  refine fm_tw (z := nI (i4 + 1)) (nI_add _ _) ?_
  refine va_sld hx hb hX hbl hbA hS (vp_in_nI (by omega) (by omega)) d_LW_law_345 ?_
  refine fm_tw (z := (x1)) (by rw [nI_clamp (by omega)]; exact hx1) ?_
  refine lv_aload_n hx hb d_LW_law_346 rfl (lv_at hl 4 rfl) ?_
  refine lv_iload hx hb d_LW_law_347 (lv_at hl 0 rfl) ?_
  refine lv_iconst (v := nI (2)) hx hb d_LW_law_349 (by decide) ?_
  refine lv_iadd hx hb d_LW_law_350 ?_
  refine fm_tw (z := nI (i4 + 2)) (nI_add _ _) ?_
  refine va_sld hx hb hX hbl hbA hS (vp_in_nI (by omega) (by omega)) d_LW_law_351 ?_
  refine fm_tw (z := (x2)) (by rw [nI_clamp (by omega)]; exact hx2) ?_
  refine lv_aload_n hx hb d_LW_law_352 rfl (lv_at hl 1 rfl) ?_
  refine fm_csw S (x_LW_ofU l hl0 dC dI h bf li ra (nI (rn)) o sp x1 x2 ou ) rfl rfl k_LW_of q_2_196 ⟨Nat.le_of_ble_eq_true rfl, Nat.le_of_ble_eq_true rfl⟩ hP hS (hK.sub [] rfl) (hTh _ _ hS) hNc [0] rfl rfl hl.1 rfl (Nat.le_of_ble_eq_true rfl) hf1 d_LW_law_353 (fun H hz9 hk9 hP hS => ?_)
  refine lv_istore (lv' := [(5, .int (nI (1))), (4, .int (nI (i4))), (3, .ref ou), (2, .ref mo), (1, .ref h), (0, .ref ab)]) hx hb d_LW_law_356 hl (by decide) rfl (fun ls hl => ?_)
  refine lv_aload_n hx hb d_LW_law_358 rfl (lv_at hl 3 rfl) ?_
  refine lv_aload_n hx hb d_LW_law_359 rfl (lv_at hl 5 rfl) ?_
  refine lv_iload hx hb d_LW_law_360 (lv_at hl 1 rfl) ?_
  refine lv_iconst (v := nI (1)) hx hb d_LW_law_362 (by decide) ?_
  refine lv_iadd hx hb d_LW_law_363 ?_
  refine fm_tw (z := nI (i4 + 1)) (nI_add _ _) ?_
  refine va_sld hx hb hX hbl hbA hS (vp_in_nI (by omega) (by omega)) d_LW_law_364 ?_
  refine fm_tw (z := (x1)) (by rw [nI_clamp (by omega)]; exact hx1) ?_
  refine lv_aload_n hx hb d_LW_law_365 rfl (lv_at hl 5 rfl) ?_
  refine lv_iload hx hb d_LW_law_366 (lv_at hl 1 rfl) ?_
  refine lv_iconst (v := nI (2)) hx hb d_LW_law_368 (by decide) ?_
  refine lv_iadd hx hb d_LW_law_369 ?_
  refine fm_tw (z := nI (i4 + 2)) (nI_add _ _) ?_
  refine va_sld hx hb hX hbl hbA hS (vp_in_nI (by omega) (by omega)) d_LW_law_370 ?_
  refine fm_tw (z := (x2)) (by rw [nI_clamp (by omega)]; exact hx2) ?_
  refine fm_wvP S (c_MO_ofU l dC dI mo th fa (nI (n)) ga (nI (s0)) mr (nI (rn)) ka kw (nI (cn)) x1 x2 ) rfl rfl k_MO_of q_3_238 ⟨Nat.le_of_ble_eq_true rfl, Nat.le_of_ble_eq_true rfl⟩ hP hD hS (hK.sub [] rfl) [16] (by decide) (by decide) rfl 0 rfl rfl rfl hl.1 rfl (Nat.le_of_ble_eq_true rfl) hf1 d_LW_law_371 rfl (fun H locs hP hD hS => ?_)
  have hP : va_P (dC, dI) classes [(h, .inr (3, [.ref bf, .ref li, .ref ra, .int (nI (rn)), .ref o, .ref sp, .int (nI (0))])), (bf, .inr (0, [.ref ba, .int (nI (n))])), (ba, .inl (cI, 2048, .inl (b))), (li, .inr (2, [.ref pa, .ref va, .ref na, .int (le), .int (nI (cn))])), (pa, .inl (cI, 1066, .inl (pd))), (va, .inl (cI, 1066, .inl (vl))), (na, .inl (cZ, 1066, .inl (kn))), (ra, .inl (cI, 64, .inl (rw))), (o, .inr (1, [.ref wa, .ref sa, .ref la, .int (bc), .int (ec), .int (sz), .int (sc), .int (hv)])), (wa, .inl (cI, 2048, .inl (w))), (sa, .inl (cI, 10, .inl (st))), (la, .inl (cI, 10, .inl (ln))), (sp, .inr (1, [.ref wb, .ref sb, .ref lb, .int (bc2), .int (ec2), .int (sz2), .int (sc2), .int (hv2)])), (wb, .inl (cI, 2048, .inl (w2))), (sb, .inl (cI, 10, .inl (st2))), (lb, .inl (cI, 10, .inl (ln2))), (mo, .inr (4, [.int (nI (1)), .ref fa, .int (nI (n)), .ref ga, .int (nI (0)), .int (nI (s0)), .ref mr, .int (nI (rn)), .ref ka, .ref kw, .int (nI (cn))])), (fa, .inl (cB, 8192, .inl (f))), (ga, .inl (cB, 8192, .inl (g))), (mr, .inl (cB, 64, .inl (rb))), (ka, .inl (cI, 1100, .inl (kd))), (kw, .inl (cI, 1100, .inl (wd))), (ou, .inl (cL, 1, .inr (.inl (ov))))] _ := hP
  have hD : va_D (fm_AA s) [(h, .inr (3, [.ref bf, .ref li, .ref ra, .int (nI (rn)), .ref o, .ref sp, .int (nI (0))])), (bf, .inr (0, [.ref ba, .int (nI (n))])), (ba, .inl (cI, 2048, .inl (b))), (li, .inr (2, [.ref pa, .ref va, .ref na, .int (le), .int (nI (cn))])), (pa, .inl (cI, 1066, .inl (pd))), (va, .inl (cI, 1066, .inl (vl))), (na, .inl (cZ, 1066, .inl (kn))), (ra, .inl (cI, 64, .inl (rw))), (o, .inr (1, [.ref wa, .ref sa, .ref la, .int (bc), .int (ec), .int (sz), .int (sc), .int (hv)])), (wa, .inl (cI, 2048, .inl (w))), (sa, .inl (cI, 10, .inl (st))), (la, .inl (cI, 10, .inl (ln))), (sp, .inr (1, [.ref wb, .ref sb, .ref lb, .int (bc2), .int (ec2), .int (sz2), .int (sc2), .int (hv2)])), (wb, .inl (cI, 2048, .inl (w2))), (sb, .inl (cI, 10, .inl (st2))), (lb, .inl (cI, 10, .inl (ln2))), (mo, .inr (4, [.int (nI (1)), .ref fa, .int (nI (n)), .ref ga, .int (nI (0)), .int (nI (s0)), .ref mr, .int (nI (rn)), .ref ka, .ref kw, .int (nI (cn))])), (fa, .inl (cB, 8192, .inl (f))), (ga, .inl (cB, 8192, .inl (g))), (mr, .inl (cB, 64, .inl (rb))), (ka, .inl (cI, 1100, .inl (kd))), (kw, .inl (cI, 1100, .inl (wd))), (ou, .inl (cL, 1, .inr (.inl (ov))))] := hD
  refine lv_istore (lv' := [(6, .int (nI (0))), (5, .int (nI (1))), (4, .int (nI (i4))), (3, .ref ou), (2, .ref mo), (1, .ref h), (0, .ref ab)]) hx hb d_LW_law_374 hl (by decide) rfl (fun ls hl => ?_)
  refine lv_aload_n hx hb d_LW_law_376 rfl (lv_at hl 4 rfl) ?_
  refine fm_cv S (c_MO_thrown l dC dI mo (nI (1)) fa (nI (n)) ga (nI (0)) (nI (s0)) mr (nI (rn)) ka kw (nI (cn)) ) rfl rfl k_MO_thrown q_3_147 ⟨Nat.le_of_ble_eq_true rfl, Nat.le_of_ble_eq_true rfl⟩ (hP.sub [16] rfl) (hK.sub [] rfl) 0 rfl rfl rfl hl.1 rfl (Nat.le_of_ble_eq_true rfl) hf1 d_LW_law_377 ?_
  refine lv_iload hx hb d_LW_law_380 (lv_at hl 1 rfl) ?_
  refine lv_icmp_eq (tgt := 387) hx hb d_LW_law_382 (by decide) (fun c0 => ?_) (fun c0 => ?_)
  · have c_382 : 1 = 1 := (nI_eq (a := 1) (b := 1) (by omega) (by omega)).mp c0
    refine lv_iload hx hb d_LW_law_387 (lv_at hl 1 rfl) ?_
    refine lv_if_ne (tgt := 404) hx hb d_LW_law_389 (by decide) (fun c0 => ?_) (fun c0 => ?_)
    · have c_389 : ¬ (1 = 0) := fun z => c0 ((nI_eq (a := 1) (b := 0) (by omega) (by omega)).mpr z)
      refine lv_goto (tgt := 801) hx hb d_LW_law_404 (by decide) ?_
      refine W.widen (k := cells + 1) (n := slots + 6) (by omega) (by omega) ?_
      exact k801 _ _ _ ⟨bf, ba, li, pa, va, na, ra, o, wa, sa, la, sp, wb, sb, lb, fa, ga, mr, ka, kw, n, b, rn, rw, 0, ((le)), cn, pd, vl, kn, ((bc)), ((ec)), ((sz)), ((sc)), ((hv)), w, st, ln, ((bc2)), ((ec2)), ((sz2)), ((sc2)), ((hv2)), w2, st2, ln2, (nI (1)), f, g, s0, rb, kd, wd, ov, hJ, hP, hD, hS⟩ (lv_sub hl [2, 3, 4, 5, 6] rfl)
    · have c_389 : 1 = 0 := (nI_eq (a := 1) (b := 0) (by omega) (by omega)).mp c0
      exact absurd c_389 (by decide)
  · have c_382 : ¬ (1 = 1) := fun z => c0 ((nI_eq (a := 1) (b := 1) (by omega) (by omega)).mpr z)
    exact absurd c_382 (by decide)
set_option maxHeartbeats 4000000 in
set_option maxRecDepth 100000 in
theorem lc_partU {pg : Program} {l : Launch} {ev : Env} {s : State} {m : MethodId} {below : List Frame} {meth : Method} {cd : Code} {ab L : Nat} {xs : Nat → Int32} {dC : Nat → ClassId} {dI : Nat → Nat → Nat} {cI cZ cB cL : ClassId} {Q : State → Prop} {cells slots i4 h mo ou : Nat} (CX : fm_CX pg l s m meth cd ab L xs dC dI cI cZ cB cL) (hc : cells + 1 ≤ 1055 ∧ slots + 6 ≤ 36376) (hi : i4 + 4 ≤ L) (k801 : fm_K8 pg l ev s m ab below meth cd dC dI cI cZ cB cL Q cells slots h mo ou i4) {bf ba li pa va na ra o wa sa la sp wb sb lb fa ga mr ka kw : Nat} {n : Nat} {b : Nat → Int32} {rn : Nat} {rw : Nat → Int32} {le : Int32} {cn : Nat} {pd : Nat → Int32} {vl : Nat → Int32} {kn : Nat → Int32} {bc : Int32} {ec : Int32} {sz : Int32} {sc : Int32} {hv : Int32} {w : Nat → Int32} {st : Nat → Int32} {ln : Nat → Int32} {bc2 : Int32} {ec2 : Int32} {sz2 : Int32} {sc2 : Int32} {hv2 : Int32} {w2 : Nat → Int32} {st2 : Nat → Int32} {ln2 : Nat → Int32} {th : Int32} {f : Nat → Int32} {g : Nat → Int32} {s0 : Nat} {rb : Nat → Int32} {kd : Nat → Int32} {wd : Nat → Int32} {ov : Nat → Int64} (hJ : fm_J n b f rn rw rb 0 cn vl kn kd wd g s0 bc ec sz sc hv w st ln) {H : Heap} {locs : List Loc} {ls : Array Slot} (hP : va_P (dC, dI) classes [(h, .inr (3, [.ref bf, .ref li, .ref ra, .int (nI (rn)), .ref o, .ref sp, .int (nI (0))])), (bf, .inr (0, [.ref ba, .int (nI (n))])), (ba, .inl (cI, 2048, .inl (b))), (li, .inr (2, [.ref pa, .ref va, .ref na, .int (le), .int (nI (cn))])), (pa, .inl (cI, 1066, .inl (pd))), (va, .inl (cI, 1066, .inl (vl))), (na, .inl (cZ, 1066, .inl (kn))), (ra, .inl (cI, 64, .inl (rw))), (o, .inr (1, [.ref wa, .ref sa, .ref la, .int (bc), .int (ec), .int (sz), .int (sc), .int (hv)])), (wa, .inl (cI, 2048, .inl (w))), (sa, .inl (cI, 10, .inl (st))), (la, .inl (cI, 10, .inl (ln))), (sp, .inr (1, [.ref wb, .ref sb, .ref lb, .int (bc2), .int (ec2), .int (sz2), .int (sc2), .int (hv2)])), (wb, .inl (cI, 2048, .inl (w2))), (sb, .inl (cI, 10, .inl (st2))), (lb, .inl (cI, 10, .inl (ln2))), (mo, .inr (4, [.int (th), .ref fa, .int (nI (n)), .ref ga, .int (nI (0)), .int (nI (s0)), .ref mr, .int (nI (rn)), .ref ka, .ref kw, .int (nI (cn))])), (fa, .inl (cB, 8192, .inl (f))), (ga, .inl (cB, 8192, .inl (g))), (mr, .inl (cB, 64, .inl (rb))), (ka, .inl (cI, 1100, .inl (kd))), (kw, .inl (cI, 1100, .inl (wd))), (ou, .inl (cL, 1, .inr (.inl (ov))))] H) (hD : va_D (fm_AA s) [(h, .inr (3, [.ref bf, .ref li, .ref ra, .int (nI (rn)), .ref o, .ref sp, .int (nI (0))])), (bf, .inr (0, [.ref ba, .int (nI (n))])), (ba, .inl (cI, 2048, .inl (b))), (li, .inr (2, [.ref pa, .ref va, .ref na, .int (le), .int (nI (cn))])), (pa, .inl (cI, 1066, .inl (pd))), (va, .inl (cI, 1066, .inl (vl))), (na, .inl (cZ, 1066, .inl (kn))), (ra, .inl (cI, 64, .inl (rw))), (o, .inr (1, [.ref wa, .ref sa, .ref la, .int (bc), .int (ec), .int (sz), .int (sc), .int (hv)])), (wa, .inl (cI, 2048, .inl (w))), (sa, .inl (cI, 10, .inl (st))), (la, .inl (cI, 10, .inl (ln))), (sp, .inr (1, [.ref wb, .ref sb, .ref lb, .int (bc2), .int (ec2), .int (sz2), .int (sc2), .int (hv2)])), (wb, .inl (cI, 2048, .inl (w2))), (sb, .inl (cI, 10, .inl (st2))), (lb, .inl (cI, 10, .inl (ln2))), (mo, .inr (4, [.int (th), .ref fa, .int (nI (n)), .ref ga, .int (nI (0)), .int (nI (s0)), .ref mr, .int (nI (rn)), .ref ka, .ref kw, .int (nI (cn))])), (fa, .inl (cB, 8192, .inl (f))), (ga, .inl (cB, 8192, .inl (g))), (mr, .inl (cB, 64, .inl (rb))), (ka, .inl (cI, 1100, .inl (kd))), (kw, .inl (cI, 1100, .inl (wd))), (ou, .inl (cL, 1, .inr (.inl (ov))))]) (hS : va_S (fm_AA s) s.heap H locs) (hl : lv_has ls 7 [(4, .int (nI (i4))), (3, .ref ou), (2, .ref mo), (1, .ref h), (0, .ref ab)]) (x1 : Int32) (x2 : Int32) (hx1 : xs (i4 + 1) = x1) (hx2 : xs (i4 + 2) = x2) : W pg l ev room_1 s m #[Value.ref ab] below meth cd H locs cells slots Q (F0 m 407 ls []) := by
  obtain ⟨hl0, C0, hL8, hK, hTh, hNc⟩ := id CX
  obtain ⟨hx, hb, hr, hml, hown, hts, hX, hbl, hlocks, hgv⟩ := id C0
  have hbA : ¬ fm_AA s ab := Nat.not_le.mpr hbl
  have ht : ∀ w ∈ fm_T, w.before #[Value.ref ab] s = true := fun w h => hts w (fm_ofT h).1
  have hown : s.vm.findClass R_LW = some m.cls := hown
  have S : CallFix pg m cd code 7 s #[Value.ref ab] (Cond.initialized R_FM :: fm_T) R_LW := ⟨hx, hb, hml, hown, fun w h => (List.mem_cons.mp h).elim (fun e => by rw [e]; exact ht _ q_1_1) (ht w)⟩
  have hf0 : cells ≤ room_1.cells ∧ slots ≤ room_1.slots := ⟨show cells ≤ 1055 by omega, show slots ≤ 36376 by omega⟩
  have hf1 : cells + 1 ≤ room_1.cells ∧ slots + 6 ≤ room_1.slots := hc
  obtain ⟨j1, j2, j3, j4, j5, j6, j7, j8, j9, j10⟩ := id hJ
  refine lv_aload_n hx hb d_LW_law_407 rfl (lv_at hl 3 rfl) ?_
  refine lv_aload_n hx hb d_LW_law_408 rfl (lv_at hl 4 rfl) ?_
  refine lv_iload hx hb d_LW_law_409 (lv_at hl 0 rfl) ?_
  refine lv_iconst (v := nI (1)) hx hb d_LW_law_411 (by decide) ?_
  refine lv_iadd hx hb d_LW_law_412 ?_
  refine fm_tw (z := nI (i4 + 1)) (nI_add _ _) ?_
  refine va_sld hx hb hX hbl hbA hS (vp_in_nI (by omega) (by omega)) d_LW_law_413 ?_
  refine fm_tw (z := (x1)) (by rw [nI_clamp (by omega)]; exact hx1) ?_
  refine lv_aload_n hx hb d_LW_law_414 rfl (lv_at hl 4 rfl) ?_
  refine lv_iload hx hb d_LW_law_415 (lv_at hl 0 rfl) ?_
  refine lv_iconst (v := nI (2)) hx hb d_LW_law_417 (by decide) ?_
  refine lv_iadd hx hb d_LW_law_418 ?_
  refine fm_tw (z := nI (i4 + 2)) (nI_add _ _) ?_
  refine va_sld hx hb hX hbl hbA hS (vp_in_nI (by omega) (by omega)) d_LW_law_419 ?_
  refine fm_tw (z := (x2)) (by rw [nI_clamp (by omega)]; exact hx2) ?_
  refine lv_aload_n hx hb d_LW_law_420 rfl (lv_at hl 1 rfl) ?_
  refine fm_csw S (x_LW_partU l hl0 dC dI h bf li ra (nI (rn)) o sp x1 x2 ou ) rfl rfl k_LW_part q_2_227 ⟨Nat.le_of_ble_eq_true rfl, Nat.le_of_ble_eq_true rfl⟩ hP hS (hK.sub [] rfl) (hTh _ _ hS) hNc [0] rfl rfl hl.1 rfl (Nat.le_of_ble_eq_true rfl) hf1 d_LW_law_421 (fun H hz9 hk9 hP hS => ?_)
  refine lv_istore (lv' := [(5, .int (nI (1))), (4, .int (nI (i4))), (3, .ref ou), (2, .ref mo), (1, .ref h), (0, .ref ab)]) hx hb d_LW_law_424 hl (by decide) rfl (fun ls hl => ?_)
  refine lv_aload_n hx hb d_LW_law_426 rfl (lv_at hl 3 rfl) ?_
  refine lv_aload_n hx hb d_LW_law_427 rfl (lv_at hl 5 rfl) ?_
  refine lv_iload hx hb d_LW_law_428 (lv_at hl 1 rfl) ?_
  refine lv_iconst (v := nI (1)) hx hb d_LW_law_430 (by decide) ?_
  refine lv_iadd hx hb d_LW_law_431 ?_
  refine fm_tw (z := nI (i4 + 1)) (nI_add _ _) ?_
  refine va_sld hx hb hX hbl hbA hS (vp_in_nI (by omega) (by omega)) d_LW_law_432 ?_
  refine fm_tw (z := (x1)) (by rw [nI_clamp (by omega)]; exact hx1) ?_
  refine lv_aload_n hx hb d_LW_law_433 rfl (lv_at hl 5 rfl) ?_
  refine lv_iload hx hb d_LW_law_434 (lv_at hl 1 rfl) ?_
  refine lv_iconst (v := nI (2)) hx hb d_LW_law_436 (by decide) ?_
  refine lv_iadd hx hb d_LW_law_437 ?_
  refine fm_tw (z := nI (i4 + 2)) (nI_add _ _) ?_
  refine va_sld hx hb hX hbl hbA hS (vp_in_nI (by omega) (by omega)) d_LW_law_438 ?_
  refine fm_tw (z := (x2)) (by rw [nI_clamp (by omega)]; exact hx2) ?_
  refine fm_wvP S (c_MO_partU l dC dI mo th fa (nI (n)) ga (nI (s0)) mr (nI (rn)) ka kw (nI (cn)) x1 x2 ) rfl rfl k_MO_part q_4_14 ⟨Nat.le_of_ble_eq_true rfl, Nat.le_of_ble_eq_true rfl⟩ hP hD hS (hK.sub [] rfl) [16] (by decide) (by decide) rfl 0 rfl rfl rfl hl.1 rfl (Nat.le_of_ble_eq_true rfl) hf1 d_LW_law_439 rfl (fun H locs hP hD hS => ?_)
  have hP : va_P (dC, dI) classes [(h, .inr (3, [.ref bf, .ref li, .ref ra, .int (nI (rn)), .ref o, .ref sp, .int (nI (0))])), (bf, .inr (0, [.ref ba, .int (nI (n))])), (ba, .inl (cI, 2048, .inl (b))), (li, .inr (2, [.ref pa, .ref va, .ref na, .int (le), .int (nI (cn))])), (pa, .inl (cI, 1066, .inl (pd))), (va, .inl (cI, 1066, .inl (vl))), (na, .inl (cZ, 1066, .inl (kn))), (ra, .inl (cI, 64, .inl (rw))), (o, .inr (1, [.ref wa, .ref sa, .ref la, .int (bc), .int (ec), .int (sz), .int (sc), .int (hv)])), (wa, .inl (cI, 2048, .inl (w))), (sa, .inl (cI, 10, .inl (st))), (la, .inl (cI, 10, .inl (ln))), (sp, .inr (1, [.ref wb, .ref sb, .ref lb, .int (bc2), .int (ec2), .int (sz2), .int (sc2), .int (hv2)])), (wb, .inl (cI, 2048, .inl (w2))), (sb, .inl (cI, 10, .inl (st2))), (lb, .inl (cI, 10, .inl (ln2))), (mo, .inr (4, [.int (nI (1)), .ref fa, .int (nI (n)), .ref ga, .int (nI (0)), .int (nI (s0)), .ref mr, .int (nI (rn)), .ref ka, .ref kw, .int (nI (cn))])), (fa, .inl (cB, 8192, .inl (f))), (ga, .inl (cB, 8192, .inl (g))), (mr, .inl (cB, 64, .inl (rb))), (ka, .inl (cI, 1100, .inl (kd))), (kw, .inl (cI, 1100, .inl (wd))), (ou, .inl (cL, 1, .inr (.inl (ov))))] _ := hP
  have hD : va_D (fm_AA s) [(h, .inr (3, [.ref bf, .ref li, .ref ra, .int (nI (rn)), .ref o, .ref sp, .int (nI (0))])), (bf, .inr (0, [.ref ba, .int (nI (n))])), (ba, .inl (cI, 2048, .inl (b))), (li, .inr (2, [.ref pa, .ref va, .ref na, .int (le), .int (nI (cn))])), (pa, .inl (cI, 1066, .inl (pd))), (va, .inl (cI, 1066, .inl (vl))), (na, .inl (cZ, 1066, .inl (kn))), (ra, .inl (cI, 64, .inl (rw))), (o, .inr (1, [.ref wa, .ref sa, .ref la, .int (bc), .int (ec), .int (sz), .int (sc), .int (hv)])), (wa, .inl (cI, 2048, .inl (w))), (sa, .inl (cI, 10, .inl (st))), (la, .inl (cI, 10, .inl (ln))), (sp, .inr (1, [.ref wb, .ref sb, .ref lb, .int (bc2), .int (ec2), .int (sz2), .int (sc2), .int (hv2)])), (wb, .inl (cI, 2048, .inl (w2))), (sb, .inl (cI, 10, .inl (st2))), (lb, .inl (cI, 10, .inl (ln2))), (mo, .inr (4, [.int (nI (1)), .ref fa, .int (nI (n)), .ref ga, .int (nI (0)), .int (nI (s0)), .ref mr, .int (nI (rn)), .ref ka, .ref kw, .int (nI (cn))])), (fa, .inl (cB, 8192, .inl (f))), (ga, .inl (cB, 8192, .inl (g))), (mr, .inl (cB, 64, .inl (rb))), (ka, .inl (cI, 1100, .inl (kd))), (kw, .inl (cI, 1100, .inl (wd))), (ou, .inl (cL, 1, .inr (.inl (ov))))] := hD
  refine lv_istore (lv' := [(6, .int (nI (0))), (5, .int (nI (1))), (4, .int (nI (i4))), (3, .ref ou), (2, .ref mo), (1, .ref h), (0, .ref ab)]) hx hb d_LW_law_442 hl (by decide) rfl (fun ls hl => ?_)
  refine lv_aload_n hx hb d_LW_law_444 rfl (lv_at hl 4 rfl) ?_
  refine fm_cv S (c_MO_thrown l dC dI mo (nI (1)) fa (nI (n)) ga (nI (0)) (nI (s0)) mr (nI (rn)) ka kw (nI (cn)) ) rfl rfl k_MO_thrown q_3_147 ⟨Nat.le_of_ble_eq_true rfl, Nat.le_of_ble_eq_true rfl⟩ (hP.sub [16] rfl) (hK.sub [] rfl) 0 rfl rfl rfl hl.1 rfl (Nat.le_of_ble_eq_true rfl) hf1 d_LW_law_445 ?_
  refine lv_iload hx hb d_LW_law_448 (lv_at hl 1 rfl) ?_
  refine lv_icmp_eq (tgt := 455) hx hb d_LW_law_450 (by decide) (fun c0 => ?_) (fun c0 => ?_)
  · have c_450 : 1 = 1 := (nI_eq (a := 1) (b := 1) (by omega) (by omega)).mp c0
    refine lv_iload hx hb d_LW_law_455 (lv_at hl 1 rfl) ?_
    refine lv_if_ne (tgt := 472) hx hb d_LW_law_457 (by decide) (fun c0 => ?_) (fun c0 => ?_)
    · have c_457 : ¬ (1 = 0) := fun z => c0 ((nI_eq (a := 1) (b := 0) (by omega) (by omega)).mpr z)
      refine lv_goto (tgt := 801) hx hb d_LW_law_472 (by decide) ?_
      refine W.widen (k := cells + 1) (n := slots + 6) (by omega) (by omega) ?_
      exact k801 _ _ _ ⟨bf, ba, li, pa, va, na, ra, o, wa, sa, la, sp, wb, sb, lb, fa, ga, mr, ka, kw, n, b, rn, rw, 0, ((le)), cn, pd, vl, kn, ((bc)), ((ec)), ((sz)), ((sc)), ((hv)), w, st, ln, ((bc2)), ((ec2)), ((sz2)), ((sc2)), ((hv2)), w2, st2, ln2, (nI (1)), f, g, s0, rb, kd, wd, ov, hJ, hP, hD, hS⟩ (lv_sub hl [2, 3, 4, 5, 6] rfl)
    · have c_457 : 1 = 0 := (nI_eq (a := 1) (b := 0) (by omega) (by omega)).mp c0
      exact absurd c_457 (by decide)
  · have c_450 : ¬ (1 = 1) := fun z => c0 ((nI_eq (a := 1) (b := 1) (by omega) (by omega)).mpr z)
    exact absurd c_450 (by decide)
set_option maxHeartbeats 4000000 in
set_option maxRecDepth 100000 in
theorem lc_askU {pg : Program} {l : Launch} {ev : Env} {s : State} {m : MethodId} {below : List Frame} {meth : Method} {cd : Code} {ab L : Nat} {xs : Nat → Int32} {dC : Nat → ClassId} {dI : Nat → Nat → Nat} {cI cZ cB cL : ClassId} {Q : State → Prop} {cells slots i4 h mo ou : Nat} (CX : fm_CX pg l s m meth cd ab L xs dC dI cI cZ cB cL) (hc : cells + 1 ≤ 1055 ∧ slots + 6 ≤ 36376) (hi : i4 + 4 ≤ L) (k801 : fm_K8 pg l ev s m ab below meth cd dC dI cI cZ cB cL Q cells slots h mo ou i4) {bf ba li pa va na ra o wa sa la sp wb sb lb fa ga mr ka kw : Nat} {n : Nat} {b : Nat → Int32} {rn : Nat} {rw : Nat → Int32} {le : Int32} {cn : Nat} {pd : Nat → Int32} {vl : Nat → Int32} {kn : Nat → Int32} {bc : Int32} {ec : Int32} {sz : Int32} {sc : Int32} {hv : Int32} {w : Nat → Int32} {st : Nat → Int32} {ln : Nat → Int32} {bc2 : Int32} {ec2 : Int32} {sz2 : Int32} {sc2 : Int32} {hv2 : Int32} {w2 : Nat → Int32} {st2 : Nat → Int32} {ln2 : Nat → Int32} {th : Int32} {f : Nat → Int32} {g : Nat → Int32} {s0 : Nat} {rb : Nat → Int32} {kd : Nat → Int32} {wd : Nat → Int32} {ov : Nat → Int64} (hJ : fm_J n b f rn rw rb 0 cn vl kn kd wd g s0 bc ec sz sc hv w st ln) {H : Heap} {locs : List Loc} {ls : Array Slot} (hP : va_P (dC, dI) classes [(h, .inr (3, [.ref bf, .ref li, .ref ra, .int (nI (rn)), .ref o, .ref sp, .int (nI (0))])), (bf, .inr (0, [.ref ba, .int (nI (n))])), (ba, .inl (cI, 2048, .inl (b))), (li, .inr (2, [.ref pa, .ref va, .ref na, .int (le), .int (nI (cn))])), (pa, .inl (cI, 1066, .inl (pd))), (va, .inl (cI, 1066, .inl (vl))), (na, .inl (cZ, 1066, .inl (kn))), (ra, .inl (cI, 64, .inl (rw))), (o, .inr (1, [.ref wa, .ref sa, .ref la, .int (bc), .int (ec), .int (sz), .int (sc), .int (hv)])), (wa, .inl (cI, 2048, .inl (w))), (sa, .inl (cI, 10, .inl (st))), (la, .inl (cI, 10, .inl (ln))), (sp, .inr (1, [.ref wb, .ref sb, .ref lb, .int (bc2), .int (ec2), .int (sz2), .int (sc2), .int (hv2)])), (wb, .inl (cI, 2048, .inl (w2))), (sb, .inl (cI, 10, .inl (st2))), (lb, .inl (cI, 10, .inl (ln2))), (mo, .inr (4, [.int (th), .ref fa, .int (nI (n)), .ref ga, .int (nI (0)), .int (nI (s0)), .ref mr, .int (nI (rn)), .ref ka, .ref kw, .int (nI (cn))])), (fa, .inl (cB, 8192, .inl (f))), (ga, .inl (cB, 8192, .inl (g))), (mr, .inl (cB, 64, .inl (rb))), (ka, .inl (cI, 1100, .inl (kd))), (kw, .inl (cI, 1100, .inl (wd))), (ou, .inl (cL, 1, .inr (.inl (ov))))] H) (hD : va_D (fm_AA s) [(h, .inr (3, [.ref bf, .ref li, .ref ra, .int (nI (rn)), .ref o, .ref sp, .int (nI (0))])), (bf, .inr (0, [.ref ba, .int (nI (n))])), (ba, .inl (cI, 2048, .inl (b))), (li, .inr (2, [.ref pa, .ref va, .ref na, .int (le), .int (nI (cn))])), (pa, .inl (cI, 1066, .inl (pd))), (va, .inl (cI, 1066, .inl (vl))), (na, .inl (cZ, 1066, .inl (kn))), (ra, .inl (cI, 64, .inl (rw))), (o, .inr (1, [.ref wa, .ref sa, .ref la, .int (bc), .int (ec), .int (sz), .int (sc), .int (hv)])), (wa, .inl (cI, 2048, .inl (w))), (sa, .inl (cI, 10, .inl (st))), (la, .inl (cI, 10, .inl (ln))), (sp, .inr (1, [.ref wb, .ref sb, .ref lb, .int (bc2), .int (ec2), .int (sz2), .int (sc2), .int (hv2)])), (wb, .inl (cI, 2048, .inl (w2))), (sb, .inl (cI, 10, .inl (st2))), (lb, .inl (cI, 10, .inl (ln2))), (mo, .inr (4, [.int (th), .ref fa, .int (nI (n)), .ref ga, .int (nI (0)), .int (nI (s0)), .ref mr, .int (nI (rn)), .ref ka, .ref kw, .int (nI (cn))])), (fa, .inl (cB, 8192, .inl (f))), (ga, .inl (cB, 8192, .inl (g))), (mr, .inl (cB, 64, .inl (rb))), (ka, .inl (cI, 1100, .inl (kd))), (kw, .inl (cI, 1100, .inl (wd))), (ou, .inl (cL, 1, .inr (.inl (ov))))]) (hS : va_S (fm_AA s) s.heap H locs) (hl : lv_has ls 7 [(4, .int (nI (i4))), (3, .ref ou), (2, .ref mo), (1, .ref h), (0, .ref ab)]) (x1 : Int32) (x2 : Int32) (hx1 : xs (i4 + 1) = x1) (hx2 : xs (i4 + 2) = x2) : W pg l ev room_1 s m #[Value.ref ab] below meth cd H locs cells slots Q (F0 m 531 ls []) := by
  obtain ⟨hl0, C0, hL8, hK, hTh, hNc⟩ := id CX
  obtain ⟨hx, hb, hr, hml, hown, hts, hX, hbl, hlocks, hgv⟩ := id C0
  have hbA : ¬ fm_AA s ab := Nat.not_le.mpr hbl
  have ht : ∀ w ∈ fm_T, w.before #[Value.ref ab] s = true := fun w h => hts w (fm_ofT h).1
  have hown : s.vm.findClass R_LW = some m.cls := hown
  have S : CallFix pg m cd code 7 s #[Value.ref ab] (Cond.initialized R_FM :: fm_T) R_LW := ⟨hx, hb, hml, hown, fun w h => (List.mem_cons.mp h).elim (fun e => by rw [e]; exact ht _ q_1_1) (ht w)⟩
  have hf0 : cells ≤ room_1.cells ∧ slots ≤ room_1.slots := ⟨show cells ≤ 1055 by omega, show slots ≤ 36376 by omega⟩
  have hf1 : cells + 1 ≤ room_1.cells ∧ slots + 6 ≤ room_1.slots := hc
  obtain ⟨j1, j2, j3, j4, j5, j6, j7, j8, j9, j10⟩ := id hJ
  refine lv_aload_n hx hb d_LW_law_531 rfl (lv_at hl 3 rfl) ?_
  refine lv_aload_n hx hb d_LW_law_532 rfl (lv_at hl 4 rfl) ?_
  refine lv_iload hx hb d_LW_law_533 (lv_at hl 0 rfl) ?_
  refine lv_iconst (v := nI (1)) hx hb d_LW_law_535 (by decide) ?_
  refine lv_iadd hx hb d_LW_law_536 ?_
  refine fm_tw (z := nI (i4 + 1)) (nI_add _ _) ?_
  refine va_sld hx hb hX hbl hbA hS (vp_in_nI (by omega) (by omega)) d_LW_law_537 ?_
  refine fm_tw (z := (x1)) (by rw [nI_clamp (by omega)]; exact hx1) ?_
  refine lv_aload_n hx hb d_LW_law_538 rfl (lv_at hl 4 rfl) ?_
  refine lv_iload hx hb d_LW_law_539 (lv_at hl 0 rfl) ?_
  refine lv_iconst (v := nI (2)) hx hb d_LW_law_541 (by decide) ?_
  refine lv_iadd hx hb d_LW_law_542 ?_
  refine fm_tw (z := nI (i4 + 2)) (nI_add _ _) ?_
  refine va_sld hx hb hX hbl hbA hS (vp_in_nI (by omega) (by omega)) d_LW_law_543 ?_
  refine fm_tw (z := (x2)) (by rw [nI_clamp (by omega)]; exact hx2) ?_
  refine lv_aload_n hx hb d_LW_law_544 rfl (lv_at hl 1 rfl) ?_
  refine fm_csw S (x_LW_askU l hl0 dC dI h bf li ra (nI (rn)) o sp x1 x2 ou ) rfl rfl k_LW_ask q_3_6 ⟨Nat.le_of_ble_eq_true rfl, Nat.le_of_ble_eq_true rfl⟩ hP hS (hK.sub [] rfl) (hTh _ _ hS) hNc [0] rfl rfl hl.1 rfl (Nat.le_of_ble_eq_true rfl) hf1 d_LW_law_545 (fun H hz9 hk9 hP hS => ?_)
  refine lv_istore (lv' := [(5, .int (nI (1))), (4, .int (nI (i4))), (3, .ref ou), (2, .ref mo), (1, .ref h), (0, .ref ab)]) hx hb d_LW_law_548 hl (by decide) rfl (fun ls hl => ?_)
  refine lv_aload_n hx hb d_LW_law_550 rfl (lv_at hl 3 rfl) ?_
  refine lv_aload_n hx hb d_LW_law_551 rfl (lv_at hl 5 rfl) ?_
  refine lv_iload hx hb d_LW_law_552 (lv_at hl 1 rfl) ?_
  refine lv_iconst (v := nI (1)) hx hb d_LW_law_554 (by decide) ?_
  refine lv_iadd hx hb d_LW_law_555 ?_
  refine fm_tw (z := nI (i4 + 1)) (nI_add _ _) ?_
  refine va_sld hx hb hX hbl hbA hS (vp_in_nI (by omega) (by omega)) d_LW_law_556 ?_
  refine fm_tw (z := (x1)) (by rw [nI_clamp (by omega)]; exact hx1) ?_
  refine lv_aload_n hx hb d_LW_law_557 rfl (lv_at hl 5 rfl) ?_
  refine lv_iload hx hb d_LW_law_558 (lv_at hl 1 rfl) ?_
  refine lv_iconst (v := nI (2)) hx hb d_LW_law_560 (by decide) ?_
  refine lv_iadd hx hb d_LW_law_561 ?_
  refine fm_tw (z := nI (i4 + 2)) (nI_add _ _) ?_
  refine va_sld hx hb hX hbl hbA hS (vp_in_nI (by omega) (by omega)) d_LW_law_562 ?_
  refine fm_tw (z := (x2)) (by rw [nI_clamp (by omega)]; exact hx2) ?_
  refine fm_wvP S (c_MO_askU l dC dI mo th fa (nI (n)) ga (nI (s0)) mr (nI (rn)) ka kw (nI (cn)) x1 x2 ) rfl rfl k_MO_ask q_4_22 ⟨Nat.le_of_ble_eq_true rfl, Nat.le_of_ble_eq_true rfl⟩ hP hD hS (hK.sub [] rfl) [16] (by decide) (by decide) rfl 0 rfl rfl rfl hl.1 rfl (Nat.le_of_ble_eq_true rfl) hf1 d_LW_law_563 rfl (fun H locs hP hD hS => ?_)
  have hP : va_P (dC, dI) classes [(h, .inr (3, [.ref bf, .ref li, .ref ra, .int (nI (rn)), .ref o, .ref sp, .int (nI (0))])), (bf, .inr (0, [.ref ba, .int (nI (n))])), (ba, .inl (cI, 2048, .inl (b))), (li, .inr (2, [.ref pa, .ref va, .ref na, .int (le), .int (nI (cn))])), (pa, .inl (cI, 1066, .inl (pd))), (va, .inl (cI, 1066, .inl (vl))), (na, .inl (cZ, 1066, .inl (kn))), (ra, .inl (cI, 64, .inl (rw))), (o, .inr (1, [.ref wa, .ref sa, .ref la, .int (bc), .int (ec), .int (sz), .int (sc), .int (hv)])), (wa, .inl (cI, 2048, .inl (w))), (sa, .inl (cI, 10, .inl (st))), (la, .inl (cI, 10, .inl (ln))), (sp, .inr (1, [.ref wb, .ref sb, .ref lb, .int (bc2), .int (ec2), .int (sz2), .int (sc2), .int (hv2)])), (wb, .inl (cI, 2048, .inl (w2))), (sb, .inl (cI, 10, .inl (st2))), (lb, .inl (cI, 10, .inl (ln2))), (mo, .inr (4, [.int (nI (1)), .ref fa, .int (nI (n)), .ref ga, .int (nI (0)), .int (nI (s0)), .ref mr, .int (nI (rn)), .ref ka, .ref kw, .int (nI (cn))])), (fa, .inl (cB, 8192, .inl (f))), (ga, .inl (cB, 8192, .inl (g))), (mr, .inl (cB, 64, .inl (rb))), (ka, .inl (cI, 1100, .inl (kd))), (kw, .inl (cI, 1100, .inl (wd))), (ou, .inl (cL, 1, .inr (.inl (ov))))] _ := hP
  have hD : va_D (fm_AA s) [(h, .inr (3, [.ref bf, .ref li, .ref ra, .int (nI (rn)), .ref o, .ref sp, .int (nI (0))])), (bf, .inr (0, [.ref ba, .int (nI (n))])), (ba, .inl (cI, 2048, .inl (b))), (li, .inr (2, [.ref pa, .ref va, .ref na, .int (le), .int (nI (cn))])), (pa, .inl (cI, 1066, .inl (pd))), (va, .inl (cI, 1066, .inl (vl))), (na, .inl (cZ, 1066, .inl (kn))), (ra, .inl (cI, 64, .inl (rw))), (o, .inr (1, [.ref wa, .ref sa, .ref la, .int (bc), .int (ec), .int (sz), .int (sc), .int (hv)])), (wa, .inl (cI, 2048, .inl (w))), (sa, .inl (cI, 10, .inl (st))), (la, .inl (cI, 10, .inl (ln))), (sp, .inr (1, [.ref wb, .ref sb, .ref lb, .int (bc2), .int (ec2), .int (sz2), .int (sc2), .int (hv2)])), (wb, .inl (cI, 2048, .inl (w2))), (sb, .inl (cI, 10, .inl (st2))), (lb, .inl (cI, 10, .inl (ln2))), (mo, .inr (4, [.int (nI (1)), .ref fa, .int (nI (n)), .ref ga, .int (nI (0)), .int (nI (s0)), .ref mr, .int (nI (rn)), .ref ka, .ref kw, .int (nI (cn))])), (fa, .inl (cB, 8192, .inl (f))), (ga, .inl (cB, 8192, .inl (g))), (mr, .inl (cB, 64, .inl (rb))), (ka, .inl (cI, 1100, .inl (kd))), (kw, .inl (cI, 1100, .inl (wd))), (ou, .inl (cL, 1, .inr (.inl (ov))))] := hD
  refine lv_istore (lv' := [(6, .int (nI (0))), (5, .int (nI (1))), (4, .int (nI (i4))), (3, .ref ou), (2, .ref mo), (1, .ref h), (0, .ref ab)]) hx hb d_LW_law_566 hl (by decide) rfl (fun ls hl => ?_)
  refine lv_aload_n hx hb d_LW_law_568 rfl (lv_at hl 4 rfl) ?_
  refine fm_cv S (c_MO_thrown l dC dI mo (nI (1)) fa (nI (n)) ga (nI (0)) (nI (s0)) mr (nI (rn)) ka kw (nI (cn)) ) rfl rfl k_MO_thrown q_3_147 ⟨Nat.le_of_ble_eq_true rfl, Nat.le_of_ble_eq_true rfl⟩ (hP.sub [16] rfl) (hK.sub [] rfl) 0 rfl rfl rfl hl.1 rfl (Nat.le_of_ble_eq_true rfl) hf1 d_LW_law_569 ?_
  refine lv_iload hx hb d_LW_law_572 (lv_at hl 1 rfl) ?_
  refine lv_icmp_eq (tgt := 579) hx hb d_LW_law_574 (by decide) (fun c0 => ?_) (fun c0 => ?_)
  · have c_574 : 1 = 1 := (nI_eq (a := 1) (b := 1) (by omega) (by omega)).mp c0
    refine lv_iload hx hb d_LW_law_579 (lv_at hl 1 rfl) ?_
    refine lv_if_ne (tgt := 596) hx hb d_LW_law_581 (by decide) (fun c0 => ?_) (fun c0 => ?_)
    · have c_581 : ¬ (1 = 0) := fun z => c0 ((nI_eq (a := 1) (b := 0) (by omega) (by omega)).mpr z)
      refine lv_goto (tgt := 801) hx hb d_LW_law_596 (by decide) ?_
      refine W.widen (k := cells + 1) (n := slots + 6) (by omega) (by omega) ?_
      exact k801 _ _ _ ⟨bf, ba, li, pa, va, na, ra, o, wa, sa, la, sp, wb, sb, lb, fa, ga, mr, ka, kw, n, b, rn, rw, 0, ((le)), cn, pd, vl, kn, ((bc)), ((ec)), ((sz)), ((sc)), ((hv)), w, st, ln, ((bc2)), ((ec2)), ((sz2)), ((sc2)), ((hv2)), w2, st2, ln2, (nI (1)), f, g, s0, rb, kd, wd, ov, hJ, hP, hD, hS⟩ (lv_sub hl [2, 3, 4, 5, 6] rfl)
    · have c_581 : 1 = 0 := (nI_eq (a := 1) (b := 0) (by omega) (by omega)).mp c0
      exact absurd c_581 (by decide)
  · have c_574 : ¬ (1 = 1) := fun z => c0 ((nI_eq (a := 1) (b := 1) (by omega) (by omega)).mpr z)
    exact absurd c_574 (by decide)
set_option maxHeartbeats 4000000 in
set_option maxRecDepth 100000 in
theorem lc_setU {pg : Program} {l : Launch} {ev : Env} {s : State} {m : MethodId} {below : List Frame} {meth : Method} {cd : Code} {ab L : Nat} {xs : Nat → Int32} {dC : Nat → ClassId} {dI : Nat → Nat → Nat} {cI cZ cB cL : ClassId} {Q : State → Prop} {cells slots i4 h mo ou : Nat} (CX : fm_CX pg l s m meth cd ab L xs dC dI cI cZ cB cL) (hc : cells + 1 ≤ 1055 ∧ slots + 6 ≤ 36376) (hi : i4 + 4 ≤ L) (k801 : fm_K8 pg l ev s m ab below meth cd dC dI cI cZ cB cL Q cells slots h mo ou i4) {bf ba li pa va na ra o wa sa la sp wb sb lb fa ga mr ka kw : Nat} {n : Nat} {b : Nat → Int32} {rn : Nat} {rw : Nat → Int32} {le : Int32} {cn : Nat} {pd : Nat → Int32} {vl : Nat → Int32} {kn : Nat → Int32} {bc : Int32} {ec : Int32} {sz : Int32} {sc : Int32} {hv : Int32} {w : Nat → Int32} {st : Nat → Int32} {ln : Nat → Int32} {bc2 : Int32} {ec2 : Int32} {sz2 : Int32} {sc2 : Int32} {hv2 : Int32} {w2 : Nat → Int32} {st2 : Nat → Int32} {ln2 : Nat → Int32} {th : Int32} {f : Nat → Int32} {g : Nat → Int32} {s0 : Nat} {rb : Nat → Int32} {kd : Nat → Int32} {wd : Nat → Int32} {ov : Nat → Int64} (hJ : fm_J n b f rn rw rb 0 cn vl kn kd wd g s0 bc ec sz sc hv w st ln) {H : Heap} {locs : List Loc} {ls : Array Slot} (hP : va_P (dC, dI) classes [(h, .inr (3, [.ref bf, .ref li, .ref ra, .int (nI (rn)), .ref o, .ref sp, .int (nI (0))])), (bf, .inr (0, [.ref ba, .int (nI (n))])), (ba, .inl (cI, 2048, .inl (b))), (li, .inr (2, [.ref pa, .ref va, .ref na, .int (le), .int (nI (cn))])), (pa, .inl (cI, 1066, .inl (pd))), (va, .inl (cI, 1066, .inl (vl))), (na, .inl (cZ, 1066, .inl (kn))), (ra, .inl (cI, 64, .inl (rw))), (o, .inr (1, [.ref wa, .ref sa, .ref la, .int (bc), .int (ec), .int (sz), .int (sc), .int (hv)])), (wa, .inl (cI, 2048, .inl (w))), (sa, .inl (cI, 10, .inl (st))), (la, .inl (cI, 10, .inl (ln))), (sp, .inr (1, [.ref wb, .ref sb, .ref lb, .int (bc2), .int (ec2), .int (sz2), .int (sc2), .int (hv2)])), (wb, .inl (cI, 2048, .inl (w2))), (sb, .inl (cI, 10, .inl (st2))), (lb, .inl (cI, 10, .inl (ln2))), (mo, .inr (4, [.int (th), .ref fa, .int (nI (n)), .ref ga, .int (nI (0)), .int (nI (s0)), .ref mr, .int (nI (rn)), .ref ka, .ref kw, .int (nI (cn))])), (fa, .inl (cB, 8192, .inl (f))), (ga, .inl (cB, 8192, .inl (g))), (mr, .inl (cB, 64, .inl (rb))), (ka, .inl (cI, 1100, .inl (kd))), (kw, .inl (cI, 1100, .inl (wd))), (ou, .inl (cL, 1, .inr (.inl (ov))))] H) (hD : va_D (fm_AA s) [(h, .inr (3, [.ref bf, .ref li, .ref ra, .int (nI (rn)), .ref o, .ref sp, .int (nI (0))])), (bf, .inr (0, [.ref ba, .int (nI (n))])), (ba, .inl (cI, 2048, .inl (b))), (li, .inr (2, [.ref pa, .ref va, .ref na, .int (le), .int (nI (cn))])), (pa, .inl (cI, 1066, .inl (pd))), (va, .inl (cI, 1066, .inl (vl))), (na, .inl (cZ, 1066, .inl (kn))), (ra, .inl (cI, 64, .inl (rw))), (o, .inr (1, [.ref wa, .ref sa, .ref la, .int (bc), .int (ec), .int (sz), .int (sc), .int (hv)])), (wa, .inl (cI, 2048, .inl (w))), (sa, .inl (cI, 10, .inl (st))), (la, .inl (cI, 10, .inl (ln))), (sp, .inr (1, [.ref wb, .ref sb, .ref lb, .int (bc2), .int (ec2), .int (sz2), .int (sc2), .int (hv2)])), (wb, .inl (cI, 2048, .inl (w2))), (sb, .inl (cI, 10, .inl (st2))), (lb, .inl (cI, 10, .inl (ln2))), (mo, .inr (4, [.int (th), .ref fa, .int (nI (n)), .ref ga, .int (nI (0)), .int (nI (s0)), .ref mr, .int (nI (rn)), .ref ka, .ref kw, .int (nI (cn))])), (fa, .inl (cB, 8192, .inl (f))), (ga, .inl (cB, 8192, .inl (g))), (mr, .inl (cB, 64, .inl (rb))), (ka, .inl (cI, 1100, .inl (kd))), (kw, .inl (cI, 1100, .inl (wd))), (ou, .inl (cL, 1, .inr (.inl (ov))))]) (hS : va_S (fm_AA s) s.heap H locs) (hl : lv_has ls 7 [(4, .int (nI (i4))), (3, .ref ou), (2, .ref mo), (1, .ref h), (0, .ref ab)])   : W pg l ev room_1 s m #[Value.ref ab] below meth cd H locs cells slots Q (F0 m 624 ls []) := by
  obtain ⟨hl0, C0, hL8, hK, hTh, hNc⟩ := id CX
  obtain ⟨hx, hb, hr, hml, hown, hts, hX, hbl, hlocks, hgv⟩ := id C0
  have hbA : ¬ fm_AA s ab := Nat.not_le.mpr hbl
  have ht : ∀ w ∈ fm_T, w.before #[Value.ref ab] s = true := fun w h => hts w (fm_ofT h).1
  have hown : s.vm.findClass R_LW = some m.cls := hown
  have S : CallFix pg m cd code 7 s #[Value.ref ab] (Cond.initialized R_FM :: fm_T) R_LW := ⟨hx, hb, hml, hown, fun w h => (List.mem_cons.mp h).elim (fun e => by rw [e]; exact ht _ q_1_1) (ht w)⟩
  have hf0 : cells ≤ room_1.cells ∧ slots ≤ room_1.slots := ⟨show cells ≤ 1055 by omega, show slots ≤ 36376 by omega⟩
  have hf1 : cells + 1 ≤ room_1.cells ∧ slots + 6 ≤ room_1.slots := hc
  obtain ⟨j1, j2, j3, j4, j5, j6, j7, j8, j9, j10⟩ := id hJ
  refine lv_aload_n hx hb d_LW_law_624 rfl (lv_at hl 3 rfl) ?_
  refine lv_aload_n hx hb d_LW_law_625 rfl (lv_at hl 1 rfl) ?_
  refine fm_csw S (x_LW_setU l hl0 dC dI h bf li ra (nI (rn)) o sp ou ) rfl rfl k_LW_set q_3_33 ⟨Nat.le_of_ble_eq_true rfl, Nat.le_of_ble_eq_true rfl⟩ hP hS (hK.sub [] rfl) (hTh _ _ hS) hNc [0] rfl rfl hl.1 rfl (Nat.le_of_ble_eq_true rfl) hf1 d_LW_law_626 (fun H hz9 hk9 hP hS => ?_)
  refine lv_istore (lv' := [(5, .int (nI (1))), (4, .int (nI (i4))), (3, .ref ou), (2, .ref mo), (1, .ref h), (0, .ref ab)]) hx hb d_LW_law_629 hl (by decide) rfl (fun ls hl => ?_)
  refine lv_aload_n hx hb d_LW_law_631 rfl (lv_at hl 3 rfl) ?_
  refine fm_wvP S (c_MO_setU l dC dI mo th fa (nI (n)) ga (nI (s0)) mr (nI (rn)) ka kw (nI (cn)) ) rfl rfl k_MO_set q_4_38 ⟨Nat.le_of_ble_eq_true rfl, Nat.le_of_ble_eq_true rfl⟩ hP hD hS (hK.sub [] rfl) [16] (by decide) (by decide) rfl 0 rfl rfl rfl hl.1 rfl (Nat.le_of_ble_eq_true rfl) hf1 d_LW_law_632 rfl (fun H locs hP hD hS => ?_)
  have hP : va_P (dC, dI) classes [(h, .inr (3, [.ref bf, .ref li, .ref ra, .int (nI (rn)), .ref o, .ref sp, .int (nI (0))])), (bf, .inr (0, [.ref ba, .int (nI (n))])), (ba, .inl (cI, 2048, .inl (b))), (li, .inr (2, [.ref pa, .ref va, .ref na, .int (le), .int (nI (cn))])), (pa, .inl (cI, 1066, .inl (pd))), (va, .inl (cI, 1066, .inl (vl))), (na, .inl (cZ, 1066, .inl (kn))), (ra, .inl (cI, 64, .inl (rw))), (o, .inr (1, [.ref wa, .ref sa, .ref la, .int (bc), .int (ec), .int (sz), .int (sc), .int (hv)])), (wa, .inl (cI, 2048, .inl (w))), (sa, .inl (cI, 10, .inl (st))), (la, .inl (cI, 10, .inl (ln))), (sp, .inr (1, [.ref wb, .ref sb, .ref lb, .int (bc2), .int (ec2), .int (sz2), .int (sc2), .int (hv2)])), (wb, .inl (cI, 2048, .inl (w2))), (sb, .inl (cI, 10, .inl (st2))), (lb, .inl (cI, 10, .inl (ln2))), (mo, .inr (4, [.int (nI (1)), .ref fa, .int (nI (n)), .ref ga, .int (nI (0)), .int (nI (s0)), .ref mr, .int (nI (rn)), .ref ka, .ref kw, .int (nI (cn))])), (fa, .inl (cB, 8192, .inl (f))), (ga, .inl (cB, 8192, .inl (g))), (mr, .inl (cB, 64, .inl (rb))), (ka, .inl (cI, 1100, .inl (kd))), (kw, .inl (cI, 1100, .inl (wd))), (ou, .inl (cL, 1, .inr (.inl (ov))))] _ := hP
  have hD : va_D (fm_AA s) [(h, .inr (3, [.ref bf, .ref li, .ref ra, .int (nI (rn)), .ref o, .ref sp, .int (nI (0))])), (bf, .inr (0, [.ref ba, .int (nI (n))])), (ba, .inl (cI, 2048, .inl (b))), (li, .inr (2, [.ref pa, .ref va, .ref na, .int (le), .int (nI (cn))])), (pa, .inl (cI, 1066, .inl (pd))), (va, .inl (cI, 1066, .inl (vl))), (na, .inl (cZ, 1066, .inl (kn))), (ra, .inl (cI, 64, .inl (rw))), (o, .inr (1, [.ref wa, .ref sa, .ref la, .int (bc), .int (ec), .int (sz), .int (sc), .int (hv)])), (wa, .inl (cI, 2048, .inl (w))), (sa, .inl (cI, 10, .inl (st))), (la, .inl (cI, 10, .inl (ln))), (sp, .inr (1, [.ref wb, .ref sb, .ref lb, .int (bc2), .int (ec2), .int (sz2), .int (sc2), .int (hv2)])), (wb, .inl (cI, 2048, .inl (w2))), (sb, .inl (cI, 10, .inl (st2))), (lb, .inl (cI, 10, .inl (ln2))), (mo, .inr (4, [.int (nI (1)), .ref fa, .int (nI (n)), .ref ga, .int (nI (0)), .int (nI (s0)), .ref mr, .int (nI (rn)), .ref ka, .ref kw, .int (nI (cn))])), (fa, .inl (cB, 8192, .inl (f))), (ga, .inl (cB, 8192, .inl (g))), (mr, .inl (cB, 64, .inl (rb))), (ka, .inl (cI, 1100, .inl (kd))), (kw, .inl (cI, 1100, .inl (wd))), (ou, .inl (cL, 1, .inr (.inl (ov))))] := hD
  refine lv_istore (lv' := [(6, .int (nI (0))), (5, .int (nI (1))), (4, .int (nI (i4))), (3, .ref ou), (2, .ref mo), (1, .ref h), (0, .ref ab)]) hx hb d_LW_law_635 hl (by decide) rfl (fun ls hl => ?_)
  refine lv_aload_n hx hb d_LW_law_637 rfl (lv_at hl 4 rfl) ?_
  refine fm_cv S (c_MO_thrown l dC dI mo (nI (1)) fa (nI (n)) ga (nI (0)) (nI (s0)) mr (nI (rn)) ka kw (nI (cn)) ) rfl rfl k_MO_thrown q_3_147 ⟨Nat.le_of_ble_eq_true rfl, Nat.le_of_ble_eq_true rfl⟩ (hP.sub [16] rfl) (hK.sub [] rfl) 0 rfl rfl rfl hl.1 rfl (Nat.le_of_ble_eq_true rfl) hf1 d_LW_law_638 ?_
  refine lv_iload hx hb d_LW_law_641 (lv_at hl 1 rfl) ?_
  refine lv_icmp_eq (tgt := 648) hx hb d_LW_law_643 (by decide) (fun c0 => ?_) (fun c0 => ?_)
  · have c_643 : 1 = 1 := (nI_eq (a := 1) (b := 1) (by omega) (by omega)).mp c0
    refine lv_iload hx hb d_LW_law_648 (lv_at hl 1 rfl) ?_
    refine lv_if_ne (tgt := 665) hx hb d_LW_law_650 (by decide) (fun c0 => ?_) (fun c0 => ?_)
    · have c_650 : ¬ (1 = 0) := fun z => c0 ((nI_eq (a := 1) (b := 0) (by omega) (by omega)).mpr z)
      refine lv_goto (tgt := 801) hx hb d_LW_law_665 (by decide) ?_
      refine W.widen (k := cells + 1) (n := slots + 6) (by omega) (by omega) ?_
      exact k801 _ _ _ ⟨bf, ba, li, pa, va, na, ra, o, wa, sa, la, sp, wb, sb, lb, fa, ga, mr, ka, kw, n, b, rn, rw, 0, ((le)), cn, pd, vl, kn, ((bc)), ((ec)), ((sz)), ((sc)), ((hv)), w, st, ln, ((bc2)), ((ec2)), ((sz2)), ((sc2)), ((hv2)), w2, st2, ln2, (nI (1)), f, g, s0, rb, kd, wd, ov, hJ, hP, hD, hS⟩ (lv_sub hl [2, 3, 4, 5, 6] rfl)
    · have c_650 : 1 = 0 := (nI_eq (a := 1) (b := 0) (by omega) (by omega)).mp c0
      exact absurd c_650 (by decide)
  · have c_643 : ¬ (1 = 1) := fun z => c0 ((nI_eq (a := 1) (b := 1) (by omega) (by omega)).mpr z)
    exact absurd c_643 (by decide)
set_option maxHeartbeats 4000000 in
set_option maxRecDepth 100000 in
theorem lc_loadX {pg : Program} {l : Launch} {ev : Env} {s : State} {m : MethodId} {below : List Frame} {meth : Method} {cd : Code} {ab L : Nat} {xs : Nat → Int32} {dC : Nat → ClassId} {dI : Nat → Nat → Nat} {cI cZ cB cL : ClassId} {Q : State → Prop} {cells slots i4 h mo ou : Nat} (CX : fm_CX pg l s m meth cd ab L xs dC dI cI cZ cB cL) (hc : cells + 1 ≤ 1055 ∧ slots + 6 ≤ 36376) (hi : i4 + 4 ≤ L) (k801 : fm_K8 pg l ev s m ab below meth cd dC dI cI cZ cB cL Q cells slots h mo ou i4) {bf ba li pa va na ra o wa sa la sp wb sb lb fa ga mr ka kw : Nat} {n : Nat} {b : Nat → Int32} {rn : Nat} {rw : Nat → Int32} {ld : Nat} {le : Int32} {cn : Nat} {pd : Nat → Int32} {vl : Nat → Int32} {kn : Nat → Int32} {bc : Int32} {ec : Int32} {sz : Int32} {sc : Int32} {hv : Int32} {w : Nat → Int32} {st : Nat → Int32} {ln : Nat → Int32} {bc2 : Int32} {ec2 : Int32} {sz2 : Int32} {sc2 : Int32} {hv2 : Int32} {w2 : Nat → Int32} {st2 : Nat → Int32} {ln2 : Nat → Int32} {th : Int32} {f : Nat → Int32} {g : Nat → Int32} {s0 : Nat} {rb : Nat → Int32} {kd : Nat → Int32} {wd : Nat → Int32} {ov : Nat → Int64} (hJ : fm_J n b f rn rw rb ld cn vl kn kd wd g s0 bc ec sz sc hv w st ln) {H : Heap} {locs : List Loc} {ls : Array Slot} (hP : va_P (dC, dI) classes [(h, .inr (3, [.ref bf, .ref li, .ref ra, .int (nI (rn)), .ref o, .ref sp, .int (nI (ld))])), (bf, .inr (0, [.ref ba, .int (nI (n))])), (ba, .inl (cI, 2048, .inl (b))), (li, .inr (2, [.ref pa, .ref va, .ref na, .int (le), .int (nI (cn))])), (pa, .inl (cI, 1066, .inl (pd))), (va, .inl (cI, 1066, .inl (vl))), (na, .inl (cZ, 1066, .inl (kn))), (ra, .inl (cI, 64, .inl (rw))), (o, .inr (1, [.ref wa, .ref sa, .ref la, .int (bc), .int (ec), .int (sz), .int (sc), .int (hv)])), (wa, .inl (cI, 2048, .inl (w))), (sa, .inl (cI, 10, .inl (st))), (la, .inl (cI, 10, .inl (ln))), (sp, .inr (1, [.ref wb, .ref sb, .ref lb, .int (bc2), .int (ec2), .int (sz2), .int (sc2), .int (hv2)])), (wb, .inl (cI, 2048, .inl (w2))), (sb, .inl (cI, 10, .inl (st2))), (lb, .inl (cI, 10, .inl (ln2))), (mo, .inr (4, [.int (th), .ref fa, .int (nI (n)), .ref ga, .int (nI (ld)), .int (nI (s0)), .ref mr, .int (nI (rn)), .ref ka, .ref kw, .int (nI (cn))])), (fa, .inl (cB, 8192, .inl (f))), (ga, .inl (cB, 8192, .inl (g))), (mr, .inl (cB, 64, .inl (rb))), (ka, .inl (cI, 1100, .inl (kd))), (kw, .inl (cI, 1100, .inl (wd))), (ou, .inl (cL, 1, .inr (.inl (ov))))] H) (hD : va_D (fm_AA s) [(h, .inr (3, [.ref bf, .ref li, .ref ra, .int (nI (rn)), .ref o, .ref sp, .int (nI (ld))])), (bf, .inr (0, [.ref ba, .int (nI (n))])), (ba, .inl (cI, 2048, .inl (b))), (li, .inr (2, [.ref pa, .ref va, .ref na, .int (le), .int (nI (cn))])), (pa, .inl (cI, 1066, .inl (pd))), (va, .inl (cI, 1066, .inl (vl))), (na, .inl (cZ, 1066, .inl (kn))), (ra, .inl (cI, 64, .inl (rw))), (o, .inr (1, [.ref wa, .ref sa, .ref la, .int (bc), .int (ec), .int (sz), .int (sc), .int (hv)])), (wa, .inl (cI, 2048, .inl (w))), (sa, .inl (cI, 10, .inl (st))), (la, .inl (cI, 10, .inl (ln))), (sp, .inr (1, [.ref wb, .ref sb, .ref lb, .int (bc2), .int (ec2), .int (sz2), .int (sc2), .int (hv2)])), (wb, .inl (cI, 2048, .inl (w2))), (sb, .inl (cI, 10, .inl (st2))), (lb, .inl (cI, 10, .inl (ln2))), (mo, .inr (4, [.int (th), .ref fa, .int (nI (n)), .ref ga, .int (nI (ld)), .int (nI (s0)), .ref mr, .int (nI (rn)), .ref ka, .ref kw, .int (nI (cn))])), (fa, .inl (cB, 8192, .inl (f))), (ga, .inl (cB, 8192, .inl (g))), (mr, .inl (cB, 64, .inl (rb))), (ka, .inl (cI, 1100, .inl (kd))), (kw, .inl (cI, 1100, .inl (wd))), (ou, .inl (cL, 1, .inr (.inl (ov))))]) (hS : va_S (fm_AA s) s.heap H locs) (hl : lv_has ls 7 [(4, .int (nI (i4))), (3, .ref ou), (2, .ref mo), (1, .ref h), (0, .ref ab)]) (x1 : Int32) (hx1 : xs (i4 + 1) = x1) (hno : x1 < 0 ∨ nI 134217727 < x1) : W pg l ev room_1 s m #[Value.ref ab] below meth cd H locs cells slots Q (F0 m 202 ls []) := by
  obtain ⟨hl0, C0, hL8, hK, hTh, hNc⟩ := id CX
  obtain ⟨hx, hb, hr, hml, hown, hts, hX, hbl, hlocks, hgv⟩ := id C0
  have hbA : ¬ fm_AA s ab := Nat.not_le.mpr hbl
  have ht : ∀ w ∈ fm_T, w.before #[Value.ref ab] s = true := fun w h => hts w (fm_ofT h).1
  have hown : s.vm.findClass R_LW = some m.cls := hown
  have S : CallFix pg m cd code 7 s #[Value.ref ab] (Cond.initialized R_FM :: fm_T) R_LW := ⟨hx, hb, hml, hown, fun w h => (List.mem_cons.mp h).elim (fun e => by rw [e]; exact ht _ q_1_1) (ht w)⟩
  have hf0 : cells ≤ room_1.cells ∧ slots ≤ room_1.slots := ⟨show cells ≤ 1055 by omega, show slots ≤ 36376 by omega⟩
  have hf1 : cells + 1 ≤ room_1.cells ∧ slots + 6 ≤ room_1.slots := hc
  obtain ⟨j1, j2, j3, j4, j5, j6, j7, j8, j9, j10⟩ := id hJ
  refine lv_aload_n hx hb d_LW_law_202 rfl (lv_at hl 3 rfl) ?_
  refine lv_aload_n hx hb d_LW_law_203 rfl (lv_at hl 4 rfl) ?_
  refine lv_iload hx hb d_LW_law_204 (lv_at hl 0 rfl) ?_
  refine lv_iconst (v := nI (1)) hx hb d_LW_law_206 (by decide) ?_
  refine lv_iadd hx hb d_LW_law_207 ?_
  refine fm_tw (z := nI (i4 + 1)) (nI_add _ _) ?_
  refine va_sld hx hb hX hbl hbA hS (vp_in_nI (by omega) (by omega)) d_LW_law_208 ?_
  refine fm_tw (z := (x1)) (by rw [nI_clamp (by omega)]; exact hx1) ?_
  refine lv_aload_n hx hb d_LW_law_209 rfl (lv_at hl 1 rfl) ?_
  refine fm_csw S (x_LW_loadX l hl0 dC dI h bf li ra (nI (rn)) o sp (nI (ld)) x1 ou (hno)) rfl rfl k_LW_load q_1_192 ⟨Nat.le_of_ble_eq_true rfl, Nat.le_of_ble_eq_true rfl⟩ hP hS (hK.sub [] rfl) (hTh _ _ hS) hNc [0] rfl rfl hl.1 rfl (Nat.le_of_ble_eq_true rfl) hf1 d_LW_law_210 (fun H hz9 hk9 hP hS => ?_)
  refine lv_istore (lv' := [(5, .int (nI (1))), (4, .int (nI (i4))), (3, .ref ou), (2, .ref mo), (1, .ref h), (0, .ref ab)]) hx hb d_LW_law_213 hl (by decide) rfl (fun ls hl => ?_)
  refine lv_aload_n hx hb d_LW_law_215 rfl (lv_at hl 3 rfl) ?_
  refine lv_aload_n hx hb d_LW_law_216 rfl (lv_at hl 5 rfl) ?_
  refine lv_iload hx hb d_LW_law_217 (lv_at hl 1 rfl) ?_
  refine lv_iconst (v := nI (1)) hx hb d_LW_law_219 (by decide) ?_
  refine lv_iadd hx hb d_LW_law_220 ?_
  refine fm_tw (z := nI (i4 + 1)) (nI_add _ _) ?_
  refine va_sld hx hb hX hbl hbA hS (vp_in_nI (by omega) (by omega)) d_LW_law_221 ?_
  refine fm_tw (z := (x1)) (by rw [nI_clamp (by omega)]; exact hx1) ?_
  refine fm_wvP S (c_MO_loadX l dC dI mo th fa (nI (n)) ga (nI (ld)) (nI (s0)) mr (nI (rn)) ka kw (nI (cn)) x1 (hno)) rfl rfl k_MO_load q_3_159 ⟨Nat.le_of_ble_eq_true rfl, Nat.le_of_ble_eq_true rfl⟩ hP hD hS (hK.sub [] rfl) [16] (by decide) (by decide) rfl 0 rfl rfl rfl hl.1 rfl (Nat.le_of_ble_eq_true rfl) hf1 d_LW_law_222 rfl (fun H locs hP hD hS => ?_)
  have hP : va_P (dC, dI) classes [(h, .inr (3, [.ref bf, .ref li, .ref ra, .int (nI (rn)), .ref o, .ref sp, .int (nI (ld))])), (bf, .inr (0, [.ref ba, .int (nI (n))])), (ba, .inl (cI, 2048, .inl (b))), (li, .inr (2, [.ref pa, .ref va, .ref na, .int (le), .int (nI (cn))])), (pa, .inl (cI, 1066, .inl (pd))), (va, .inl (cI, 1066, .inl (vl))), (na, .inl (cZ, 1066, .inl (kn))), (ra, .inl (cI, 64, .inl (rw))), (o, .inr (1, [.ref wa, .ref sa, .ref la, .int (bc), .int (ec), .int (sz), .int (sc), .int (hv)])), (wa, .inl (cI, 2048, .inl (w))), (sa, .inl (cI, 10, .inl (st))), (la, .inl (cI, 10, .inl (ln))), (sp, .inr (1, [.ref wb, .ref sb, .ref lb, .int (bc2), .int (ec2), .int (sz2), .int (sc2), .int (hv2)])), (wb, .inl (cI, 2048, .inl (w2))), (sb, .inl (cI, 10, .inl (st2))), (lb, .inl (cI, 10, .inl (ln2))), (mo, .inr (4, [.int (nI (1)), .ref fa, .int (nI (n)), .ref ga, .int (nI (ld)), .int (nI (s0)), .ref mr, .int (nI (rn)), .ref ka, .ref kw, .int (nI (cn))])), (fa, .inl (cB, 8192, .inl (f))), (ga, .inl (cB, 8192, .inl (g))), (mr, .inl (cB, 64, .inl (rb))), (ka, .inl (cI, 1100, .inl (kd))), (kw, .inl (cI, 1100, .inl (wd))), (ou, .inl (cL, 1, .inr (.inl (ov))))] _ := hP
  have hD : va_D (fm_AA s) [(h, .inr (3, [.ref bf, .ref li, .ref ra, .int (nI (rn)), .ref o, .ref sp, .int (nI (ld))])), (bf, .inr (0, [.ref ba, .int (nI (n))])), (ba, .inl (cI, 2048, .inl (b))), (li, .inr (2, [.ref pa, .ref va, .ref na, .int (le), .int (nI (cn))])), (pa, .inl (cI, 1066, .inl (pd))), (va, .inl (cI, 1066, .inl (vl))), (na, .inl (cZ, 1066, .inl (kn))), (ra, .inl (cI, 64, .inl (rw))), (o, .inr (1, [.ref wa, .ref sa, .ref la, .int (bc), .int (ec), .int (sz), .int (sc), .int (hv)])), (wa, .inl (cI, 2048, .inl (w))), (sa, .inl (cI, 10, .inl (st))), (la, .inl (cI, 10, .inl (ln))), (sp, .inr (1, [.ref wb, .ref sb, .ref lb, .int (bc2), .int (ec2), .int (sz2), .int (sc2), .int (hv2)])), (wb, .inl (cI, 2048, .inl (w2))), (sb, .inl (cI, 10, .inl (st2))), (lb, .inl (cI, 10, .inl (ln2))), (mo, .inr (4, [.int (nI (1)), .ref fa, .int (nI (n)), .ref ga, .int (nI (ld)), .int (nI (s0)), .ref mr, .int (nI (rn)), .ref ka, .ref kw, .int (nI (cn))])), (fa, .inl (cB, 8192, .inl (f))), (ga, .inl (cB, 8192, .inl (g))), (mr, .inl (cB, 64, .inl (rb))), (ka, .inl (cI, 1100, .inl (kd))), (kw, .inl (cI, 1100, .inl (wd))), (ou, .inl (cL, 1, .inr (.inl (ov))))] := hD
  refine lv_istore (lv' := [(6, .int (nI (0))), (5, .int (nI (1))), (4, .int (nI (i4))), (3, .ref ou), (2, .ref mo), (1, .ref h), (0, .ref ab)]) hx hb d_LW_law_225 hl (by decide) rfl (fun ls hl => ?_)
  refine lv_aload_n hx hb d_LW_law_227 rfl (lv_at hl 4 rfl) ?_
  refine fm_cv S (c_MO_thrown l dC dI mo (nI (1)) fa (nI (n)) ga (nI (ld)) (nI (s0)) mr (nI (rn)) ka kw (nI (cn)) ) rfl rfl k_MO_thrown q_3_147 ⟨Nat.le_of_ble_eq_true rfl, Nat.le_of_ble_eq_true rfl⟩ (hP.sub [16] rfl) (hK.sub [] rfl) 0 rfl rfl rfl hl.1 rfl (Nat.le_of_ble_eq_true rfl) hf1 d_LW_law_228 ?_
  refine lv_iload hx hb d_LW_law_231 (lv_at hl 1 rfl) ?_
  refine lv_icmp_eq (tgt := 238) hx hb d_LW_law_233 (by decide) (fun c0 => ?_) (fun c0 => ?_)
  · have c_233 : 1 = 1 := (nI_eq (a := 1) (b := 1) (by omega) (by omega)).mp c0
    refine lv_iload hx hb d_LW_law_238 (lv_at hl 1 rfl) ?_
    refine lv_if_ne (tgt := 255) hx hb d_LW_law_240 (by decide) (fun c0 => ?_) (fun c0 => ?_)
    · have c_240 : ¬ (1 = 0) := fun z => c0 ((nI_eq (a := 1) (b := 0) (by omega) (by omega)).mpr z)
      refine lv_goto (tgt := 801) hx hb d_LW_law_255 (by decide) ?_
      refine W.widen (k := cells + 1) (n := slots + 6) (by omega) (by omega) ?_
      exact k801 _ _ _ ⟨bf, ba, li, pa, va, na, ra, o, wa, sa, la, sp, wb, sb, lb, fa, ga, mr, ka, kw, n, b, rn, rw, ld, ((le)), cn, pd, vl, kn, ((bc)), ((ec)), ((sz)), ((sc)), ((hv)), w, st, ln, ((bc2)), ((ec2)), ((sz2)), ((sc2)), ((hv2)), w2, st2, ln2, (nI (1)), f, g, s0, rb, kd, wd, ov, hJ, hP, hD, hS⟩ (lv_sub hl [2, 3, 4, 5, 6] rfl)
    · have c_240 : 1 = 0 := (nI_eq (a := 1) (b := 0) (by omega) (by omega)).mp c0
      exact absurd c_240 (by decide)
  · have c_233 : ¬ (1 = 1) := fun z => c0 ((nI_eq (a := 1) (b := 1) (by omega) (by omega)).mpr z)
    exact absurd c_233 (by decide)
set_option maxHeartbeats 4000000 in
set_option maxRecDepth 100000 in
theorem lc_isKernN {pg : Program} {l : Launch} {ev : Env} {s : State} {m : MethodId} {below : List Frame} {meth : Method} {cd : Code} {ab L : Nat} {xs : Nat → Int32} {dC : Nat → ClassId} {dI : Nat → Nat → Nat} {cI cZ cB cL : ClassId} {Q : State → Prop} {cells slots i4 h mo ou : Nat} (CX : fm_CX pg l s m meth cd ab L xs dC dI cI cZ cB cL) (hc : cells + 1 ≤ 1055 ∧ slots + 6 ≤ 36376) (hi : i4 + 4 ≤ L) (k801 : fm_K8 pg l ev s m ab below meth cd dC dI cI cZ cB cL Q cells slots h mo ou i4) {bf ba li pa va na ra o wa sa la sp wb sb lb fa ga mr ka kw : Nat} {n : Nat} {b : Nat → Int32} {rn : Nat} {rw : Nat → Int32} {ld : Nat} {le : Int32} {cn : Nat} {pd : Nat → Int32} {vl : Nat → Int32} {kn : Nat → Int32} {bc : Int32} {ec : Int32} {sz : Int32} {sc : Int32} {hv : Int32} {w : Nat → Int32} {st : Nat → Int32} {ln : Nat → Int32} {bc2 : Int32} {ec2 : Int32} {sz2 : Int32} {sc2 : Int32} {hv2 : Int32} {w2 : Nat → Int32} {st2 : Nat → Int32} {ln2 : Nat → Int32} {th : Int32} {f : Nat → Int32} {g : Nat → Int32} {s0 : Nat} {rb : Nat → Int32} {kd : Nat → Int32} {wd : Nat → Int32} {ov : Nat → Int64} (hJ : fm_J n b f rn rw rb ld cn vl kn kd wd g s0 bc ec sz sc hv w st ln) {H : Heap} {locs : List Loc} {ls : Array Slot} (hP : va_P (dC, dI) classes [(h, .inr (3, [.ref bf, .ref li, .ref ra, .int (nI (rn)), .ref o, .ref sp, .int (nI (ld))])), (bf, .inr (0, [.ref ba, .int (nI (n))])), (ba, .inl (cI, 2048, .inl (b))), (li, .inr (2, [.ref pa, .ref va, .ref na, .int (le), .int (nI (cn))])), (pa, .inl (cI, 1066, .inl (pd))), (va, .inl (cI, 1066, .inl (vl))), (na, .inl (cZ, 1066, .inl (kn))), (ra, .inl (cI, 64, .inl (rw))), (o, .inr (1, [.ref wa, .ref sa, .ref la, .int (bc), .int (ec), .int (sz), .int (sc), .int (hv)])), (wa, .inl (cI, 2048, .inl (w))), (sa, .inl (cI, 10, .inl (st))), (la, .inl (cI, 10, .inl (ln))), (sp, .inr (1, [.ref wb, .ref sb, .ref lb, .int (bc2), .int (ec2), .int (sz2), .int (sc2), .int (hv2)])), (wb, .inl (cI, 2048, .inl (w2))), (sb, .inl (cI, 10, .inl (st2))), (lb, .inl (cI, 10, .inl (ln2))), (mo, .inr (4, [.int (th), .ref fa, .int (nI (n)), .ref ga, .int (nI (ld)), .int (nI (s0)), .ref mr, .int (nI (rn)), .ref ka, .ref kw, .int (nI (cn))])), (fa, .inl (cB, 8192, .inl (f))), (ga, .inl (cB, 8192, .inl (g))), (mr, .inl (cB, 64, .inl (rb))), (ka, .inl (cI, 1100, .inl (kd))), (kw, .inl (cI, 1100, .inl (wd))), (ou, .inl (cL, 1, .inr (.inl (ov))))] H) (hD : va_D (fm_AA s) [(h, .inr (3, [.ref bf, .ref li, .ref ra, .int (nI (rn)), .ref o, .ref sp, .int (nI (ld))])), (bf, .inr (0, [.ref ba, .int (nI (n))])), (ba, .inl (cI, 2048, .inl (b))), (li, .inr (2, [.ref pa, .ref va, .ref na, .int (le), .int (nI (cn))])), (pa, .inl (cI, 1066, .inl (pd))), (va, .inl (cI, 1066, .inl (vl))), (na, .inl (cZ, 1066, .inl (kn))), (ra, .inl (cI, 64, .inl (rw))), (o, .inr (1, [.ref wa, .ref sa, .ref la, .int (bc), .int (ec), .int (sz), .int (sc), .int (hv)])), (wa, .inl (cI, 2048, .inl (w))), (sa, .inl (cI, 10, .inl (st))), (la, .inl (cI, 10, .inl (ln))), (sp, .inr (1, [.ref wb, .ref sb, .ref lb, .int (bc2), .int (ec2), .int (sz2), .int (sc2), .int (hv2)])), (wb, .inl (cI, 2048, .inl (w2))), (sb, .inl (cI, 10, .inl (st2))), (lb, .inl (cI, 10, .inl (ln2))), (mo, .inr (4, [.int (th), .ref fa, .int (nI (n)), .ref ga, .int (nI (ld)), .int (nI (s0)), .ref mr, .int (nI (rn)), .ref ka, .ref kw, .int (nI (cn))])), (fa, .inl (cB, 8192, .inl (f))), (ga, .inl (cB, 8192, .inl (g))), (mr, .inl (cB, 64, .inl (rb))), (ka, .inl (cI, 1100, .inl (kd))), (kw, .inl (cI, 1100, .inl (wd))), (ou, .inl (cL, 1, .inr (.inl (ov))))]) (hS : va_S (fm_AA s) s.heap H locs) (hl : lv_has ls 7 [(4, .int (nI (i4))), (3, .ref ou), (2, .ref mo), (1, .ref h), (0, .ref ab)]) (x1 : Int32) (hx1 : xs (i4 + 1) = x1) (hno : x1 < 0 ∨ nI cn ≤ x1) : W pg l ev room_1 s m #[Value.ref ab] below meth cd H locs cells slots Q (F0 m 668 ls []) := by
  obtain ⟨hl0, C0, hL8, hK, hTh, hNc⟩ := id CX
  obtain ⟨hx, hb, hr, hml, hown, hts, hX, hbl, hlocks, hgv⟩ := id C0
  have hbA : ¬ fm_AA s ab := Nat.not_le.mpr hbl
  have ht : ∀ w ∈ fm_T, w.before #[Value.ref ab] s = true := fun w h => hts w (fm_ofT h).1
  have hown : s.vm.findClass R_LW = some m.cls := hown
  have S : CallFix pg m cd code 7 s #[Value.ref ab] (Cond.initialized R_FM :: fm_T) R_LW := ⟨hx, hb, hml, hown, fun w h => (List.mem_cons.mp h).elim (fun e => by rw [e]; exact ht _ q_1_1) (ht w)⟩
  have hf0 : cells ≤ room_1.cells ∧ slots ≤ room_1.slots := ⟨show cells ≤ 1055 by omega, show slots ≤ 36376 by omega⟩
  have hf1 : cells + 1 ≤ room_1.cells ∧ slots + 6 ≤ room_1.slots := hc
  obtain ⟨j1, j2, j3, j4, j5, j6, j7, j8, j9, j10⟩ := id hJ
  refine lv_aload_n hx hb d_LW_law_668 rfl (lv_at hl 3 rfl) ?_
  refine lv_aload_n hx hb d_LW_law_669 rfl (lv_at hl 4 rfl) ?_
  refine lv_iload hx hb d_LW_law_670 (lv_at hl 0 rfl) ?_
  refine lv_iconst (v := nI (1)) hx hb d_LW_law_672 (by decide) ?_
  refine lv_iadd hx hb d_LW_law_673 ?_
  refine fm_tw (z := nI (i4 + 1)) (nI_add _ _) ?_
  refine va_sld hx hb hX hbl hbA hS (vp_in_nI (by omega) (by omega)) d_LW_law_674 ?_
  refine fm_tw (z := (x1)) (by rw [nI_clamp (by omega)]; exact hx1) ?_
  refine lv_aload_n hx hb d_LW_law_675 rfl (lv_at hl 1 rfl) ?_
  refine fm_csw S (x_LW_isKernN l hl0 dC dI h bf li ra (nI (rn)) o sp (nI (ld)) pa va na le cn x1 ou (hno)) rfl rfl k_LW_isKern q_3_86 ⟨Nat.le_of_ble_eq_true rfl, Nat.le_of_ble_eq_true rfl⟩ hP hS (hK.sub [] rfl) (hTh _ _ hS) hNc [0, 3] rfl rfl hl.1 rfl (Nat.le_of_ble_eq_true rfl) hf1 d_LW_law_676 (fun H hz9 hk9 hP hS => ?_)
  refine lv_istore (lv' := [(5, .int (nI (1))), (4, .int (nI (i4))), (3, .ref ou), (2, .ref mo), (1, .ref h), (0, .ref ab)]) hx hb d_LW_law_679 hl (by decide) rfl (fun ls hl => ?_)
  refine lv_aload_n hx hb d_LW_law_681 rfl (lv_at hl 3 rfl) ?_
  refine lv_aload_n hx hb d_LW_law_682 rfl (lv_at hl 5 rfl) ?_
  refine lv_iload hx hb d_LW_law_683 (lv_at hl 1 rfl) ?_
  refine lv_iconst (v := nI (1)) hx hb d_LW_law_685 (by decide) ?_
  refine lv_iadd hx hb d_LW_law_686 ?_
  refine fm_tw (z := nI (i4 + 1)) (nI_add _ _) ?_
  refine va_sld hx hb hX hbl hbA hS (vp_in_nI (by omega) (by omega)) d_LW_law_687 ?_
  refine fm_tw (z := (x1)) (by rw [nI_clamp (by omega)]; exact hx1) ?_
  refine fm_wvP S (c_MO_isKernN l dC dI mo th fa (nI (n)) ga (nI (ld)) (nI (s0)) mr (nI (rn)) ka kw cn x1 (hno)) rfl rfl k_MO_isKern q_4_54 ⟨Nat.le_of_ble_eq_true rfl, Nat.le_of_ble_eq_true rfl⟩ hP hD hS (hK.sub [] rfl) [16] (by decide) (by decide) rfl 0 rfl rfl rfl hl.1 rfl (Nat.le_of_ble_eq_true rfl) hf1 d_LW_law_688 rfl (fun H locs hP hD hS => ?_)
  have hP : va_P (dC, dI) classes [(h, .inr (3, [.ref bf, .ref li, .ref ra, .int (nI (rn)), .ref o, .ref sp, .int (nI (ld))])), (bf, .inr (0, [.ref ba, .int (nI (n))])), (ba, .inl (cI, 2048, .inl (b))), (li, .inr (2, [.ref pa, .ref va, .ref na, .int (le), .int (nI (cn))])), (pa, .inl (cI, 1066, .inl (pd))), (va, .inl (cI, 1066, .inl (vl))), (na, .inl (cZ, 1066, .inl (kn))), (ra, .inl (cI, 64, .inl (rw))), (o, .inr (1, [.ref wa, .ref sa, .ref la, .int (bc), .int (ec), .int (sz), .int (sc), .int (hv)])), (wa, .inl (cI, 2048, .inl (w))), (sa, .inl (cI, 10, .inl (st))), (la, .inl (cI, 10, .inl (ln))), (sp, .inr (1, [.ref wb, .ref sb, .ref lb, .int (bc2), .int (ec2), .int (sz2), .int (sc2), .int (hv2)])), (wb, .inl (cI, 2048, .inl (w2))), (sb, .inl (cI, 10, .inl (st2))), (lb, .inl (cI, 10, .inl (ln2))), (mo, .inr (4, [.int (nI (1)), .ref fa, .int (nI (n)), .ref ga, .int (nI (ld)), .int (nI (s0)), .ref mr, .int (nI (rn)), .ref ka, .ref kw, .int (nI (cn))])), (fa, .inl (cB, 8192, .inl (f))), (ga, .inl (cB, 8192, .inl (g))), (mr, .inl (cB, 64, .inl (rb))), (ka, .inl (cI, 1100, .inl (kd))), (kw, .inl (cI, 1100, .inl (wd))), (ou, .inl (cL, 1, .inr (.inl (ov))))] _ := hP
  have hD : va_D (fm_AA s) [(h, .inr (3, [.ref bf, .ref li, .ref ra, .int (nI (rn)), .ref o, .ref sp, .int (nI (ld))])), (bf, .inr (0, [.ref ba, .int (nI (n))])), (ba, .inl (cI, 2048, .inl (b))), (li, .inr (2, [.ref pa, .ref va, .ref na, .int (le), .int (nI (cn))])), (pa, .inl (cI, 1066, .inl (pd))), (va, .inl (cI, 1066, .inl (vl))), (na, .inl (cZ, 1066, .inl (kn))), (ra, .inl (cI, 64, .inl (rw))), (o, .inr (1, [.ref wa, .ref sa, .ref la, .int (bc), .int (ec), .int (sz), .int (sc), .int (hv)])), (wa, .inl (cI, 2048, .inl (w))), (sa, .inl (cI, 10, .inl (st))), (la, .inl (cI, 10, .inl (ln))), (sp, .inr (1, [.ref wb, .ref sb, .ref lb, .int (bc2), .int (ec2), .int (sz2), .int (sc2), .int (hv2)])), (wb, .inl (cI, 2048, .inl (w2))), (sb, .inl (cI, 10, .inl (st2))), (lb, .inl (cI, 10, .inl (ln2))), (mo, .inr (4, [.int (nI (1)), .ref fa, .int (nI (n)), .ref ga, .int (nI (ld)), .int (nI (s0)), .ref mr, .int (nI (rn)), .ref ka, .ref kw, .int (nI (cn))])), (fa, .inl (cB, 8192, .inl (f))), (ga, .inl (cB, 8192, .inl (g))), (mr, .inl (cB, 64, .inl (rb))), (ka, .inl (cI, 1100, .inl (kd))), (kw, .inl (cI, 1100, .inl (wd))), (ou, .inl (cL, 1, .inr (.inl (ov))))] := hD
  refine lv_istore (lv' := [(6, .int (nI (0))), (5, .int (nI (1))), (4, .int (nI (i4))), (3, .ref ou), (2, .ref mo), (1, .ref h), (0, .ref ab)]) hx hb d_LW_law_691 hl (by decide) rfl (fun ls hl => ?_)
  refine lv_aload_n hx hb d_LW_law_693 rfl (lv_at hl 4 rfl) ?_
  refine fm_cv S (c_MO_thrown l dC dI mo (nI (1)) fa (nI (n)) ga (nI (ld)) (nI (s0)) mr (nI (rn)) ka kw (nI (cn)) ) rfl rfl k_MO_thrown q_3_147 ⟨Nat.le_of_ble_eq_true rfl, Nat.le_of_ble_eq_true rfl⟩ (hP.sub [16] rfl) (hK.sub [] rfl) 0 rfl rfl rfl hl.1 rfl (Nat.le_of_ble_eq_true rfl) hf1 d_LW_law_694 ?_
  refine lv_iload hx hb d_LW_law_697 (lv_at hl 1 rfl) ?_
  refine lv_icmp_eq (tgt := 704) hx hb d_LW_law_699 (by decide) (fun c0 => ?_) (fun c0 => ?_)
  · have c_699 : 1 = 1 := (nI_eq (a := 1) (b := 1) (by omega) (by omega)).mp c0
    refine lv_iload hx hb d_LW_law_704 (lv_at hl 1 rfl) ?_
    refine lv_if_ne (tgt := 728) hx hb d_LW_law_706 (by decide) (fun c0 => ?_) (fun c0 => ?_)
    · have c_706 : ¬ (1 = 0) := fun z => c0 ((nI_eq (a := 1) (b := 0) (by omega) (by omega)).mpr z)
      refine lv_goto (tgt := 801) hx hb d_LW_law_728 (by decide) ?_
      refine W.widen (k := cells + 1) (n := slots + 6) (by omega) (by omega) ?_
      exact k801 _ _ _ ⟨bf, ba, li, pa, va, na, ra, o, wa, sa, la, sp, wb, sb, lb, fa, ga, mr, ka, kw, n, b, rn, rw, ld, ((le)), cn, pd, vl, kn, ((bc)), ((ec)), ((sz)), ((sc)), ((hv)), w, st, ln, ((bc2)), ((ec2)), ((sz2)), ((sc2)), ((hv2)), w2, st2, ln2, (nI (1)), f, g, s0, rb, kd, wd, ov, hJ, hP, hD, hS⟩ (lv_sub hl [2, 3, 4, 5, 6] rfl)
    · have c_706 : 1 = 0 := (nI_eq (a := 1) (b := 0) (by omega) (by omega)).mp c0
      exact absurd c_706 (by decide)
  · have c_699 : ¬ (1 = 1) := fun z => c0 ((nI_eq (a := 1) (b := 1) (by omega) (by omega)).mpr z)
    exact absurd c_699 (by decide)
set_option maxHeartbeats 4000000 in
set_option maxRecDepth 100000 in
theorem lc_itemN {pg : Program} {l : Launch} {ev : Env} {s : State} {m : MethodId} {below : List Frame} {meth : Method} {cd : Code} {ab L : Nat} {xs : Nat → Int32} {dC : Nat → ClassId} {dI : Nat → Nat → Nat} {cI cZ cB cL : ClassId} {Q : State → Prop} {cells slots i4 h mo ou : Nat} (CX : fm_CX pg l s m meth cd ab L xs dC dI cI cZ cB cL) (hc : cells + 1 ≤ 1055 ∧ slots + 6 ≤ 36376) (hi : i4 + 4 ≤ L) (k801 : fm_K8 pg l ev s m ab below meth cd dC dI cI cZ cB cL Q cells slots h mo ou i4) {bf ba li pa va na ra o wa sa la sp wb sb lb fa ga mr ka kw : Nat} {n : Nat} {b : Nat → Int32} {rn : Nat} {rw : Nat → Int32} {ld : Nat} {le : Int32} {cn : Nat} {pd : Nat → Int32} {vl : Nat → Int32} {kn : Nat → Int32} {bc : Int32} {ec : Int32} {sz : Int32} {sc : Int32} {hv : Int32} {w : Nat → Int32} {st : Nat → Int32} {ln : Nat → Int32} {bc2 : Int32} {ec2 : Int32} {sz2 : Int32} {sc2 : Int32} {hv2 : Int32} {w2 : Nat → Int32} {st2 : Nat → Int32} {ln2 : Nat → Int32} {th : Int32} {f : Nat → Int32} {g : Nat → Int32} {s0 : Nat} {rb : Nat → Int32} {kd : Nat → Int32} {wd : Nat → Int32} {ov : Nat → Int64} (hJ : fm_J n b f rn rw rb ld cn vl kn kd wd g s0 bc ec sz sc hv w st ln) {H : Heap} {locs : List Loc} {ls : Array Slot} (hP : va_P (dC, dI) classes [(h, .inr (3, [.ref bf, .ref li, .ref ra, .int (nI (rn)), .ref o, .ref sp, .int (nI (ld))])), (bf, .inr (0, [.ref ba, .int (nI (n))])), (ba, .inl (cI, 2048, .inl (b))), (li, .inr (2, [.ref pa, .ref va, .ref na, .int (le), .int (nI (cn))])), (pa, .inl (cI, 1066, .inl (pd))), (va, .inl (cI, 1066, .inl (vl))), (na, .inl (cZ, 1066, .inl (kn))), (ra, .inl (cI, 64, .inl (rw))), (o, .inr (1, [.ref wa, .ref sa, .ref la, .int (bc), .int (ec), .int (sz), .int (sc), .int (hv)])), (wa, .inl (cI, 2048, .inl (w))), (sa, .inl (cI, 10, .inl (st))), (la, .inl (cI, 10, .inl (ln))), (sp, .inr (1, [.ref wb, .ref sb, .ref lb, .int (bc2), .int (ec2), .int (sz2), .int (sc2), .int (hv2)])), (wb, .inl (cI, 2048, .inl (w2))), (sb, .inl (cI, 10, .inl (st2))), (lb, .inl (cI, 10, .inl (ln2))), (mo, .inr (4, [.int (th), .ref fa, .int (nI (n)), .ref ga, .int (nI (ld)), .int (nI (s0)), .ref mr, .int (nI (rn)), .ref ka, .ref kw, .int (nI (cn))])), (fa, .inl (cB, 8192, .inl (f))), (ga, .inl (cB, 8192, .inl (g))), (mr, .inl (cB, 64, .inl (rb))), (ka, .inl (cI, 1100, .inl (kd))), (kw, .inl (cI, 1100, .inl (wd))), (ou, .inl (cL, 1, .inr (.inl (ov))))] H) (hD : va_D (fm_AA s) [(h, .inr (3, [.ref bf, .ref li, .ref ra, .int (nI (rn)), .ref o, .ref sp, .int (nI (ld))])), (bf, .inr (0, [.ref ba, .int (nI (n))])), (ba, .inl (cI, 2048, .inl (b))), (li, .inr (2, [.ref pa, .ref va, .ref na, .int (le), .int (nI (cn))])), (pa, .inl (cI, 1066, .inl (pd))), (va, .inl (cI, 1066, .inl (vl))), (na, .inl (cZ, 1066, .inl (kn))), (ra, .inl (cI, 64, .inl (rw))), (o, .inr (1, [.ref wa, .ref sa, .ref la, .int (bc), .int (ec), .int (sz), .int (sc), .int (hv)])), (wa, .inl (cI, 2048, .inl (w))), (sa, .inl (cI, 10, .inl (st))), (la, .inl (cI, 10, .inl (ln))), (sp, .inr (1, [.ref wb, .ref sb, .ref lb, .int (bc2), .int (ec2), .int (sz2), .int (sc2), .int (hv2)])), (wb, .inl (cI, 2048, .inl (w2))), (sb, .inl (cI, 10, .inl (st2))), (lb, .inl (cI, 10, .inl (ln2))), (mo, .inr (4, [.int (th), .ref fa, .int (nI (n)), .ref ga, .int (nI (ld)), .int (nI (s0)), .ref mr, .int (nI (rn)), .ref ka, .ref kw, .int (nI (cn))])), (fa, .inl (cB, 8192, .inl (f))), (ga, .inl (cB, 8192, .inl (g))), (mr, .inl (cB, 64, .inl (rb))), (ka, .inl (cI, 1100, .inl (kd))), (kw, .inl (cI, 1100, .inl (wd))), (ou, .inl (cL, 1, .inr (.inl (ov))))]) (hS : va_S (fm_AA s) s.heap H locs) (hl : lv_has ls 7 [(4, .int (nI (i4))), (3, .ref ou), (2, .ref mo), (1, .ref h), (0, .ref ab)]) (x1 : Int32) (hx1 : xs (i4 + 1) = x1) (hno : x1 < 0 ∨ nI cn ≤ x1) : W pg l ev room_1 s m #[Value.ref ab] below meth cd H locs cells slots Q (F0 m 731 ls []) := by
  obtain ⟨hl0, C0, hL8, hK, hTh, hNc⟩ := id CX
  obtain ⟨hx, hb, hr, hml, hown, hts, hX, hbl, hlocks, hgv⟩ := id C0
  have hbA : ¬ fm_AA s ab := Nat.not_le.mpr hbl
  have ht : ∀ w ∈ fm_T, w.before #[Value.ref ab] s = true := fun w h => hts w (fm_ofT h).1
  have hown : s.vm.findClass R_LW = some m.cls := hown
  have S : CallFix pg m cd code 7 s #[Value.ref ab] (Cond.initialized R_FM :: fm_T) R_LW := ⟨hx, hb, hml, hown, fun w h => (List.mem_cons.mp h).elim (fun e => by rw [e]; exact ht _ q_1_1) (ht w)⟩
  have hf0 : cells ≤ room_1.cells ∧ slots ≤ room_1.slots := ⟨show cells ≤ 1055 by omega, show slots ≤ 36376 by omega⟩
  have hf1 : cells + 1 ≤ room_1.cells ∧ slots + 6 ≤ room_1.slots := hc
  obtain ⟨j1, j2, j3, j4, j5, j6, j7, j8, j9, j10⟩ := id hJ
  refine lv_aload_n hx hb d_LW_law_731 rfl (lv_at hl 3 rfl) ?_
  refine lv_aload_n hx hb d_LW_law_732 rfl (lv_at hl 4 rfl) ?_
  refine lv_iload hx hb d_LW_law_733 (lv_at hl 0 rfl) ?_
  refine lv_iconst (v := nI (1)) hx hb d_LW_law_735 (by decide) ?_
  refine lv_iadd hx hb d_LW_law_736 ?_
  refine fm_tw (z := nI (i4 + 1)) (nI_add _ _) ?_
  refine va_sld hx hb hX hbl hbA hS (vp_in_nI (by omega) (by omega)) d_LW_law_737 ?_
  refine fm_tw (z := (x1)) (by rw [nI_clamp (by omega)]; exact hx1) ?_
  refine lv_aload_n hx hb d_LW_law_738 rfl (lv_at hl 1 rfl) ?_
  refine fm_csw S (x_LW_itemN l hl0 dC dI h bf li ra (nI (rn)) o sp (nI (ld)) pa va na le cn x1 ou (hno)) rfl rfl k_LW_item q_3_99 ⟨Nat.le_of_ble_eq_true rfl, Nat.le_of_ble_eq_true rfl⟩ hP hS (hK.sub [] rfl) (hTh _ _ hS) hNc [0, 3] rfl rfl hl.1 rfl (Nat.le_of_ble_eq_true rfl) hf1 d_LW_law_739 (fun H hz9 hk9 hP hS => ?_)
  refine lv_istore (lv' := [(5, .int (nI (1))), (4, .int (nI (i4))), (3, .ref ou), (2, .ref mo), (1, .ref h), (0, .ref ab)]) hx hb d_LW_law_742 hl (by decide) rfl (fun ls hl => ?_)
  refine lv_aload_n hx hb d_LW_law_744 rfl (lv_at hl 3 rfl) ?_
  refine lv_aload_n hx hb d_LW_law_745 rfl (lv_at hl 5 rfl) ?_
  refine lv_iload hx hb d_LW_law_746 (lv_at hl 1 rfl) ?_
  refine lv_iconst (v := nI (1)) hx hb d_LW_law_748 (by decide) ?_
  refine lv_iadd hx hb d_LW_law_749 ?_
  refine fm_tw (z := nI (i4 + 1)) (nI_add _ _) ?_
  refine va_sld hx hb hX hbl hbA hS (vp_in_nI (by omega) (by omega)) d_LW_law_750 ?_
  refine fm_tw (z := (x1)) (by rw [nI_clamp (by omega)]; exact hx1) ?_
  refine fm_wvP S (c_MO_itemN l dC dI mo th fa (nI (n)) ga (nI (ld)) (nI (s0)) mr (nI (rn)) ka kw cn x1 (hno)) rfl rfl k_MO_item q_4_58 ⟨Nat.le_of_ble_eq_true rfl, Nat.le_of_ble_eq_true rfl⟩ hP hD hS (hK.sub [] rfl) [16] (by decide) (by decide) rfl 0 rfl rfl rfl hl.1 rfl (Nat.le_of_ble_eq_true rfl) hf1 d_LW_law_751 rfl (fun H locs hP hD hS => ?_)
  have hP : va_P (dC, dI) classes [(h, .inr (3, [.ref bf, .ref li, .ref ra, .int (nI (rn)), .ref o, .ref sp, .int (nI (ld))])), (bf, .inr (0, [.ref ba, .int (nI (n))])), (ba, .inl (cI, 2048, .inl (b))), (li, .inr (2, [.ref pa, .ref va, .ref na, .int (le), .int (nI (cn))])), (pa, .inl (cI, 1066, .inl (pd))), (va, .inl (cI, 1066, .inl (vl))), (na, .inl (cZ, 1066, .inl (kn))), (ra, .inl (cI, 64, .inl (rw))), (o, .inr (1, [.ref wa, .ref sa, .ref la, .int (bc), .int (ec), .int (sz), .int (sc), .int (hv)])), (wa, .inl (cI, 2048, .inl (w))), (sa, .inl (cI, 10, .inl (st))), (la, .inl (cI, 10, .inl (ln))), (sp, .inr (1, [.ref wb, .ref sb, .ref lb, .int (bc2), .int (ec2), .int (sz2), .int (sc2), .int (hv2)])), (wb, .inl (cI, 2048, .inl (w2))), (sb, .inl (cI, 10, .inl (st2))), (lb, .inl (cI, 10, .inl (ln2))), (mo, .inr (4, [.int (nI (1)), .ref fa, .int (nI (n)), .ref ga, .int (nI (ld)), .int (nI (s0)), .ref mr, .int (nI (rn)), .ref ka, .ref kw, .int (nI (cn))])), (fa, .inl (cB, 8192, .inl (f))), (ga, .inl (cB, 8192, .inl (g))), (mr, .inl (cB, 64, .inl (rb))), (ka, .inl (cI, 1100, .inl (kd))), (kw, .inl (cI, 1100, .inl (wd))), (ou, .inl (cL, 1, .inr (.inl (ov))))] _ := hP
  have hD : va_D (fm_AA s) [(h, .inr (3, [.ref bf, .ref li, .ref ra, .int (nI (rn)), .ref o, .ref sp, .int (nI (ld))])), (bf, .inr (0, [.ref ba, .int (nI (n))])), (ba, .inl (cI, 2048, .inl (b))), (li, .inr (2, [.ref pa, .ref va, .ref na, .int (le), .int (nI (cn))])), (pa, .inl (cI, 1066, .inl (pd))), (va, .inl (cI, 1066, .inl (vl))), (na, .inl (cZ, 1066, .inl (kn))), (ra, .inl (cI, 64, .inl (rw))), (o, .inr (1, [.ref wa, .ref sa, .ref la, .int (bc), .int (ec), .int (sz), .int (sc), .int (hv)])), (wa, .inl (cI, 2048, .inl (w))), (sa, .inl (cI, 10, .inl (st))), (la, .inl (cI, 10, .inl (ln))), (sp, .inr (1, [.ref wb, .ref sb, .ref lb, .int (bc2), .int (ec2), .int (sz2), .int (sc2), .int (hv2)])), (wb, .inl (cI, 2048, .inl (w2))), (sb, .inl (cI, 10, .inl (st2))), (lb, .inl (cI, 10, .inl (ln2))), (mo, .inr (4, [.int (nI (1)), .ref fa, .int (nI (n)), .ref ga, .int (nI (ld)), .int (nI (s0)), .ref mr, .int (nI (rn)), .ref ka, .ref kw, .int (nI (cn))])), (fa, .inl (cB, 8192, .inl (f))), (ga, .inl (cB, 8192, .inl (g))), (mr, .inl (cB, 64, .inl (rb))), (ka, .inl (cI, 1100, .inl (kd))), (kw, .inl (cI, 1100, .inl (wd))), (ou, .inl (cL, 1, .inr (.inl (ov))))] := hD
  refine lv_istore (lv' := [(6, .int (nI (0))), (5, .int (nI (1))), (4, .int (nI (i4))), (3, .ref ou), (2, .ref mo), (1, .ref h), (0, .ref ab)]) hx hb d_LW_law_754 hl (by decide) rfl (fun ls hl => ?_)
  refine lv_aload_n hx hb d_LW_law_756 rfl (lv_at hl 4 rfl) ?_
  refine fm_cv S (c_MO_thrown l dC dI mo (nI (1)) fa (nI (n)) ga (nI (ld)) (nI (s0)) mr (nI (rn)) ka kw (nI (cn)) ) rfl rfl k_MO_thrown q_3_147 ⟨Nat.le_of_ble_eq_true rfl, Nat.le_of_ble_eq_true rfl⟩ (hP.sub [16] rfl) (hK.sub [] rfl) 0 rfl rfl rfl hl.1 rfl (Nat.le_of_ble_eq_true rfl) hf1 d_LW_law_757 ?_
  refine lv_iload hx hb d_LW_law_760 (lv_at hl 1 rfl) ?_
  refine lv_icmp_eq (tgt := 767) hx hb d_LW_law_762 (by decide) (fun c0 => ?_) (fun c0 => ?_)
  · have c_762 : 1 = 1 := (nI_eq (a := 1) (b := 1) (by omega) (by omega)).mp c0
    refine lv_iload hx hb d_LW_law_767 (lv_at hl 1 rfl) ?_
    refine lv_if_ne (tgt := 784) hx hb d_LW_law_769 (by decide) (fun c0 => ?_) (fun c0 => ?_)
    · have c_769 : ¬ (1 = 0) := fun z => c0 ((nI_eq (a := 1) (b := 0) (by omega) (by omega)).mpr z)
      refine lv_goto (tgt := 801) hx hb d_LW_law_784 (by decide) ?_
      refine W.widen (k := cells + 1) (n := slots + 6) (by omega) (by omega) ?_
      exact k801 _ _ _ ⟨bf, ba, li, pa, va, na, ra, o, wa, sa, la, sp, wb, sb, lb, fa, ga, mr, ka, kw, n, b, rn, rw, ld, ((le)), cn, pd, vl, kn, ((bc)), ((ec)), ((sz)), ((sc)), ((hv)), w, st, ln, ((bc2)), ((ec2)), ((sz2)), ((sc2)), ((hv2)), w2, st2, ln2, (nI (1)), f, g, s0, rb, kd, wd, ov, hJ, hP, hD, hS⟩ (lv_sub hl [2, 3, 4, 5, 6] rfl)
    · have c_769 : 1 = 0 := (nI_eq (a := 1) (b := 0) (by omega) (by omega)).mp c0
      exact absurd c_769 (by decide)
  · have c_762 : ¬ (1 = 1) := fun z => c0 ((nI_eq (a := 1) (b := 1) (by omega) (by omega)).mpr z)
    exact absurd c_762 (by decide)
set_option maxHeartbeats 4000000 in
set_option maxRecDepth 100000 in
theorem lc_aboutN {pg : Program} {l : Launch} {ev : Env} {s : State} {m : MethodId} {below : List Frame} {meth : Method} {cd : Code} {ab L : Nat} {xs : Nat → Int32} {dC : Nat → ClassId} {dI : Nat → Nat → Nat} {cI cZ cB cL : ClassId} {Q : State → Prop} {cells slots i4 h mo ou : Nat} (CX : fm_CX pg l s m meth cd ab L xs dC dI cI cZ cB cL) (hc : cells + 1 ≤ 1055 ∧ slots + 6 ≤ 36376) (hi : i4 + 4 ≤ L) (k801 : fm_K8 pg l ev s m ab below meth cd dC dI cI cZ cB cL Q cells slots h mo ou i4) {bf ba li pa va na ra o wa sa la sp wb sb lb fa ga mr ka kw : Nat} {n : Nat} {b : Nat → Int32} {rn : Nat} {rw : Nat → Int32} {le : Int32} {cn : Nat} {pd : Nat → Int32} {vl : Nat → Int32} {kn : Nat → Int32} {w : Nat → Int32} {st : Nat → Int32} {ln : Nat → Int32} {bc2 : Int32} {ec2 : Int32} {sz2 : Int32} {sc2 : Int32} {hv2 : Int32} {w2 : Nat → Int32} {st2 : Nat → Int32} {ln2 : Nat → Int32} {th : Int32} {f : Nat → Int32} {g : Nat → Int32} {s0 : Nat} {rb : Nat → Int32} {kd : Nat → Int32} {wd : Nat → Int32} {ov : Nat → Int64} (hJ : fm_J n b f rn rw rb 1 cn vl kn kd wd g s0 (nI (fm_HF (fm_RB g) 2)) (nI (fm_HF (fm_RB g) 3)) (nI (s0)) (nI (fm_z s0)) (nI (fm_h s0)) w st ln) {H : Heap} {locs : List Loc} {ls : Array Slot} (hP : va_P (dC, dI) classes [(h, .inr (3, [.ref bf, .ref li, .ref ra, .int (nI (rn)), .ref o, .ref sp, .int (nI (1))])), (bf, .inr (0, [.ref ba, .int (nI (n))])), (ba, .inl (cI, 2048, .inl (b))), (li, .inr (2, [.ref pa, .ref va, .ref na, .int (le), .int (nI (cn))])), (pa, .inl (cI, 1066, .inl (pd))), (va, .inl (cI, 1066, .inl (vl))), (na, .inl (cZ, 1066, .inl (kn))), (ra, .inl (cI, 64, .inl (rw))), (o, .inr (1, [.ref wa, .ref sa, .ref la, .int (nI (fm_HF (fm_RB g) 2)), .int (nI (fm_HF (fm_RB g) 3)), .int (nI (s0)), .int (nI (fm_z s0)), .int (nI (fm_h s0))])), (wa, .inl (cI, 2048, .inl (w))), (sa, .inl (cI, 10, .inl (st))), (la, .inl (cI, 10, .inl (ln))), (sp, .inr (1, [.ref wb, .ref sb, .ref lb, .int (bc2), .int (ec2), .int (sz2), .int (sc2), .int (hv2)])), (wb, .inl (cI, 2048, .inl (w2))), (sb, .inl (cI, 10, .inl (st2))), (lb, .inl (cI, 10, .inl (ln2))), (mo, .inr (4, [.int (th), .ref fa, .int (nI (n)), .ref ga, .int (nI (1)), .int (nI (s0)), .ref mr, .int (nI (rn)), .ref ka, .ref kw, .int (nI (cn))])), (fa, .inl (cB, 8192, .inl (f))), (ga, .inl (cB, 8192, .inl (g))), (mr, .inl (cB, 64, .inl (rb))), (ka, .inl (cI, 1100, .inl (kd))), (kw, .inl (cI, 1100, .inl (wd))), (ou, .inl (cL, 1, .inr (.inl (ov))))] H) (hD : va_D (fm_AA s) [(h, .inr (3, [.ref bf, .ref li, .ref ra, .int (nI (rn)), .ref o, .ref sp, .int (nI (1))])), (bf, .inr (0, [.ref ba, .int (nI (n))])), (ba, .inl (cI, 2048, .inl (b))), (li, .inr (2, [.ref pa, .ref va, .ref na, .int (le), .int (nI (cn))])), (pa, .inl (cI, 1066, .inl (pd))), (va, .inl (cI, 1066, .inl (vl))), (na, .inl (cZ, 1066, .inl (kn))), (ra, .inl (cI, 64, .inl (rw))), (o, .inr (1, [.ref wa, .ref sa, .ref la, .int (nI (fm_HF (fm_RB g) 2)), .int (nI (fm_HF (fm_RB g) 3)), .int (nI (s0)), .int (nI (fm_z s0)), .int (nI (fm_h s0))])), (wa, .inl (cI, 2048, .inl (w))), (sa, .inl (cI, 10, .inl (st))), (la, .inl (cI, 10, .inl (ln))), (sp, .inr (1, [.ref wb, .ref sb, .ref lb, .int (bc2), .int (ec2), .int (sz2), .int (sc2), .int (hv2)])), (wb, .inl (cI, 2048, .inl (w2))), (sb, .inl (cI, 10, .inl (st2))), (lb, .inl (cI, 10, .inl (ln2))), (mo, .inr (4, [.int (th), .ref fa, .int (nI (n)), .ref ga, .int (nI (1)), .int (nI (s0)), .ref mr, .int (nI (rn)), .ref ka, .ref kw, .int (nI (cn))])), (fa, .inl (cB, 8192, .inl (f))), (ga, .inl (cB, 8192, .inl (g))), (mr, .inl (cB, 64, .inl (rb))), (ka, .inl (cI, 1100, .inl (kd))), (kw, .inl (cI, 1100, .inl (wd))), (ou, .inl (cL, 1, .inr (.inl (ov))))]) (hS : va_S (fm_AA s) s.heap H locs) (hl : lv_has ls 7 [(4, .int (nI (i4))), (3, .ref ou), (2, .ref mo), (1, .ref h), (0, .ref ab)]) (x1 : Int32) (hx1 : xs (i4 + 1) = x1) (hno : x1 < 0 ∨ nI 6 < x1) : W pg l ev room_1 s m #[Value.ref ab] below meth cd H locs cells slots Q (F0 m 258 ls []) := by
  obtain ⟨hl0, C0, hL8, hK, hTh, hNc⟩ := id CX
  obtain ⟨hx, hb, hr, hml, hown, hts, hX, hbl, hlocks, hgv⟩ := id C0
  have hbA : ¬ fm_AA s ab := Nat.not_le.mpr hbl
  have ht : ∀ w ∈ fm_T, w.before #[Value.ref ab] s = true := fun w h => hts w (fm_ofT h).1
  have hown : s.vm.findClass R_LW = some m.cls := hown
  have S : CallFix pg m cd code 7 s #[Value.ref ab] (Cond.initialized R_FM :: fm_T) R_LW := ⟨hx, hb, hml, hown, fun w h => (List.mem_cons.mp h).elim (fun e => by rw [e]; exact ht _ q_1_1) (ht w)⟩
  have hf0 : cells ≤ room_1.cells ∧ slots ≤ room_1.slots := ⟨show cells ≤ 1055 by omega, show slots ≤ 36376 by omega⟩
  have hf1 : cells + 1 ≤ room_1.cells ∧ slots + 6 ≤ room_1.slots := hc
  obtain ⟨j1, j2, j3, j4, j5, j6, j7, j8, j9, j10⟩ := id hJ
  obtain ⟨hF, hV, hs, -, -, -, -, -⟩ := j10 rfl
  have hz := hV.2.2.2.1
  have hLn := hV.1
  refine lv_aload_n hx hb d_LW_law_258 rfl (lv_at hl 3 rfl) ?_
  refine lv_aload_n hx hb d_LW_law_259 rfl (lv_at hl 4 rfl) ?_
  refine lv_iload hx hb d_LW_law_260 (lv_at hl 0 rfl) ?_
  refine lv_iconst (v := nI (1)) hx hb d_LW_law_262 (by decide) ?_
  refine lv_iadd hx hb d_LW_law_263 ?_
  refine fm_tw (z := nI (i4 + 1)) (nI_add _ _) ?_
  refine va_sld hx hb hX hbl hbA hS (vp_in_nI (by omega) (by omega)) d_LW_law_264 ?_
  refine fm_tw (z := (x1)) (by rw [nI_clamp (by omega)]; exact hx1) ?_
  refine lv_aload_n hx hb d_LW_law_265 rfl (lv_at hl 1 rfl) ?_
  refine fm_csw S (x_LW_aboutN l hl0 dC dI h bf li ra (nI (rn)) o sp wa sa la s0 cI (fm_RB g) w st ln x1 ou (hF) (hno)) rfl rfl k_LW_about q_2_143 ⟨Nat.le_of_ble_eq_true rfl, Nat.le_of_ble_eq_true rfl⟩ hP hS (hK.sub [0] rfl) (hTh _ _ hS) hNc [0, 8, 9, 10, 11] rfl rfl hl.1 rfl (Nat.le_of_ble_eq_true rfl) hf1 d_LW_law_266 (fun H hz9 hk9 hP hS => ?_)
  refine lv_istore (lv' := [(5, .int (nI (2))), (4, .int (nI (i4))), (3, .ref ou), (2, .ref mo), (1, .ref h), (0, .ref ab)]) hx hb d_LW_law_269 hl (by decide) rfl (fun ls hl => ?_)
  refine lv_aload_n hx hb d_LW_law_271 rfl (lv_at hl 3 rfl) ?_
  refine lv_aload_n hx hb d_LW_law_272 rfl (lv_at hl 5 rfl) ?_
  refine lv_iload hx hb d_LW_law_273 (lv_at hl 1 rfl) ?_
  refine lv_iconst (v := nI (1)) hx hb d_LW_law_275 (by decide) ?_
  refine lv_iadd hx hb d_LW_law_276 ?_
  refine fm_tw (z := nI (i4 + 1)) (nI_add _ _) ?_
  refine va_sld hx hb hX hbl hbA hS (vp_in_nI (by omega) (by omega)) d_LW_law_277 ?_
  refine fm_tw (z := (x1)) (by rw [nI_clamp (by omega)]; exact hx1) ?_
  refine fm_wvP S (c_MO_aboutN l dC dI mo th fa (nI (n)) ga mr (nI (rn)) ka kw (nI (cn)) s0 cB g x1 (hno)) rfl rfl k_MO_about q_3_227 ⟨Nat.le_of_ble_eq_true rfl, Nat.le_of_ble_eq_true rfl⟩ hP hD hS (hK.sub [2] rfl) [16, 18] (by decide) (by decide) rfl 0 rfl rfl rfl hl.1 rfl (Nat.le_of_ble_eq_true rfl) hf1 d_LW_law_278 rfl (fun H locs hP hD hS => ?_)
  have hP : va_P (dC, dI) classes [(h, .inr (3, [.ref bf, .ref li, .ref ra, .int (nI (rn)), .ref o, .ref sp, .int (nI (1))])), (bf, .inr (0, [.ref ba, .int (nI (n))])), (ba, .inl (cI, 2048, .inl (b))), (li, .inr (2, [.ref pa, .ref va, .ref na, .int (le), .int (nI (cn))])), (pa, .inl (cI, 1066, .inl (pd))), (va, .inl (cI, 1066, .inl (vl))), (na, .inl (cZ, 1066, .inl (kn))), (ra, .inl (cI, 64, .inl (rw))), (o, .inr (1, [.ref wa, .ref sa, .ref la, .int (nI (fm_HF (fm_RB g) 2)), .int (nI (fm_HF (fm_RB g) 3)), .int (nI (s0)), .int (nI (fm_z s0)), .int (nI (fm_h s0))])), (wa, .inl (cI, 2048, .inl (w))), (sa, .inl (cI, 10, .inl (st))), (la, .inl (cI, 10, .inl (ln))), (sp, .inr (1, [.ref wb, .ref sb, .ref lb, .int (bc2), .int (ec2), .int (sz2), .int (sc2), .int (hv2)])), (wb, .inl (cI, 2048, .inl (w2))), (sb, .inl (cI, 10, .inl (st2))), (lb, .inl (cI, 10, .inl (ln2))), (mo, .inr (4, [.int (nI (2)), .ref fa, .int (nI (n)), .ref ga, .int (nI (1)), .int (nI (s0)), .ref mr, .int (nI (rn)), .ref ka, .ref kw, .int (nI (cn))])), (fa, .inl (cB, 8192, .inl (f))), (ga, .inl (cB, 8192, .inl (g))), (mr, .inl (cB, 64, .inl (rb))), (ka, .inl (cI, 1100, .inl (kd))), (kw, .inl (cI, 1100, .inl (wd))), (ou, .inl (cL, 1, .inr (.inl (ov))))] _ := hP
  have hD : va_D (fm_AA s) [(h, .inr (3, [.ref bf, .ref li, .ref ra, .int (nI (rn)), .ref o, .ref sp, .int (nI (1))])), (bf, .inr (0, [.ref ba, .int (nI (n))])), (ba, .inl (cI, 2048, .inl (b))), (li, .inr (2, [.ref pa, .ref va, .ref na, .int (le), .int (nI (cn))])), (pa, .inl (cI, 1066, .inl (pd))), (va, .inl (cI, 1066, .inl (vl))), (na, .inl (cZ, 1066, .inl (kn))), (ra, .inl (cI, 64, .inl (rw))), (o, .inr (1, [.ref wa, .ref sa, .ref la, .int (nI (fm_HF (fm_RB g) 2)), .int (nI (fm_HF (fm_RB g) 3)), .int (nI (s0)), .int (nI (fm_z s0)), .int (nI (fm_h s0))])), (wa, .inl (cI, 2048, .inl (w))), (sa, .inl (cI, 10, .inl (st))), (la, .inl (cI, 10, .inl (ln))), (sp, .inr (1, [.ref wb, .ref sb, .ref lb, .int (bc2), .int (ec2), .int (sz2), .int (sc2), .int (hv2)])), (wb, .inl (cI, 2048, .inl (w2))), (sb, .inl (cI, 10, .inl (st2))), (lb, .inl (cI, 10, .inl (ln2))), (mo, .inr (4, [.int (nI (2)), .ref fa, .int (nI (n)), .ref ga, .int (nI (1)), .int (nI (s0)), .ref mr, .int (nI (rn)), .ref ka, .ref kw, .int (nI (cn))])), (fa, .inl (cB, 8192, .inl (f))), (ga, .inl (cB, 8192, .inl (g))), (mr, .inl (cB, 64, .inl (rb))), (ka, .inl (cI, 1100, .inl (kd))), (kw, .inl (cI, 1100, .inl (wd))), (ou, .inl (cL, 1, .inr (.inl (ov))))] := hD
  refine lv_istore (lv' := [(6, .int (nI (0))), (5, .int (nI (2))), (4, .int (nI (i4))), (3, .ref ou), (2, .ref mo), (1, .ref h), (0, .ref ab)]) hx hb d_LW_law_281 hl (by decide) rfl (fun ls hl => ?_)
  refine lv_aload_n hx hb d_LW_law_283 rfl (lv_at hl 4 rfl) ?_
  refine fm_cv S (c_MO_thrown l dC dI mo (nI (2)) fa (nI (n)) ga (nI (1)) (nI (s0)) mr (nI (rn)) ka kw (nI (cn)) ) rfl rfl k_MO_thrown q_3_147 ⟨Nat.le_of_ble_eq_true rfl, Nat.le_of_ble_eq_true rfl⟩ (hP.sub [16] rfl) (hK.sub [] rfl) 0 rfl rfl rfl hl.1 rfl (Nat.le_of_ble_eq_true rfl) hf1 d_LW_law_284 ?_
  refine lv_iload hx hb d_LW_law_287 (lv_at hl 1 rfl) ?_
  refine lv_icmp_eq (tgt := 294) hx hb d_LW_law_289 (by decide) (fun c0 => ?_) (fun c0 => ?_)
  · have c_289 : 2 = 2 := (nI_eq (a := 2) (b := 2) (by omega) (by omega)).mp c0
    refine lv_iload hx hb d_LW_law_294 (lv_at hl 1 rfl) ?_
    refine lv_if_ne (tgt := 311) hx hb d_LW_law_296 (by decide) (fun c0 => ?_) (fun c0 => ?_)
    · have c_296 : ¬ (2 = 0) := fun z => c0 ((nI_eq (a := 2) (b := 0) (by omega) (by omega)).mpr z)
      refine lv_goto (tgt := 801) hx hb d_LW_law_311 (by decide) ?_
      refine W.widen (k := cells + 1) (n := slots + 6) (by omega) (by omega) ?_
      exact k801 _ _ _ ⟨bf, ba, li, pa, va, na, ra, o, wa, sa, la, sp, wb, sb, lb, fa, ga, mr, ka, kw, n, b, rn, rw, 1, ((le)), cn, pd, vl, kn, (nI (fm_HF (fm_RB g) 2)), (nI (fm_HF (fm_RB g) 3)), (nI (s0)), (nI (fm_z s0)), (nI (fm_h s0)), w, st, ln, ((bc2)), ((ec2)), ((sz2)), ((sc2)), ((hv2)), w2, st2, ln2, (nI (2)), f, g, s0, rb, kd, wd, ov, hJ, hP, hD, hS⟩ (lv_sub hl [2, 3, 4, 5, 6] rfl)
    · have c_296 : 2 = 0 := (nI_eq (a := 2) (b := 0) (by omega) (by omega)).mp c0
      exact absurd c_296 (by decide)
  · have c_289 : ¬ (2 = 2) := fun z => c0 ((nI_eq (a := 2) (b := 2) (by omega) (by omega)).mpr z)
    exact absurd c_289 (by decide)
set_option maxHeartbeats 4000000 in
set_option maxRecDepth 100000 in
theorem lc_aboutY {pg : Program} {l : Launch} {ev : Env} {s : State} {m : MethodId} {below : List Frame} {meth : Method} {cd : Code} {ab L : Nat} {xs : Nat → Int32} {dC : Nat → ClassId} {dI : Nat → Nat → Nat} {cI cZ cB cL : ClassId} {Q : State → Prop} {cells slots i4 h mo ou : Nat} (CX : fm_CX pg l s m meth cd ab L xs dC dI cI cZ cB cL) (hc : cells + 1 ≤ 1055 ∧ slots + 6 ≤ 36376) (hi : i4 + 4 ≤ L) (k801 : fm_K8 pg l ev s m ab below meth cd dC dI cI cZ cB cL Q cells slots h mo ou i4) {bf ba li pa va na ra o wa sa la sp wb sb lb fa ga mr ka kw : Nat} {n : Nat} {b : Nat → Int32} {rn : Nat} {rw : Nat → Int32} {le : Int32} {cn : Nat} {pd : Nat → Int32} {vl : Nat → Int32} {kn : Nat → Int32} {w : Nat → Int32} {st : Nat → Int32} {ln : Nat → Int32} {bc2 : Int32} {ec2 : Int32} {sz2 : Int32} {sc2 : Int32} {hv2 : Int32} {w2 : Nat → Int32} {st2 : Nat → Int32} {ln2 : Nat → Int32} {th : Int32} {f : Nat → Int32} {g : Nat → Int32} {s0 : Nat} {rb : Nat → Int32} {kd : Nat → Int32} {wd : Nat → Int32} {ov : Nat → Int64} (hJ : fm_J n b f rn rw rb 1 cn vl kn kd wd g s0 (nI (fm_HF (fm_RB g) 2)) (nI (fm_HF (fm_RB g) 3)) (nI (s0)) (nI (fm_z s0)) (nI (fm_h s0)) w st ln) {H : Heap} {locs : List Loc} {ls : Array Slot} (hP : va_P (dC, dI) classes [(h, .inr (3, [.ref bf, .ref li, .ref ra, .int (nI (rn)), .ref o, .ref sp, .int (nI (1))])), (bf, .inr (0, [.ref ba, .int (nI (n))])), (ba, .inl (cI, 2048, .inl (b))), (li, .inr (2, [.ref pa, .ref va, .ref na, .int (le), .int (nI (cn))])), (pa, .inl (cI, 1066, .inl (pd))), (va, .inl (cI, 1066, .inl (vl))), (na, .inl (cZ, 1066, .inl (kn))), (ra, .inl (cI, 64, .inl (rw))), (o, .inr (1, [.ref wa, .ref sa, .ref la, .int (nI (fm_HF (fm_RB g) 2)), .int (nI (fm_HF (fm_RB g) 3)), .int (nI (s0)), .int (nI (fm_z s0)), .int (nI (fm_h s0))])), (wa, .inl (cI, 2048, .inl (w))), (sa, .inl (cI, 10, .inl (st))), (la, .inl (cI, 10, .inl (ln))), (sp, .inr (1, [.ref wb, .ref sb, .ref lb, .int (bc2), .int (ec2), .int (sz2), .int (sc2), .int (hv2)])), (wb, .inl (cI, 2048, .inl (w2))), (sb, .inl (cI, 10, .inl (st2))), (lb, .inl (cI, 10, .inl (ln2))), (mo, .inr (4, [.int (th), .ref fa, .int (nI (n)), .ref ga, .int (nI (1)), .int (nI (s0)), .ref mr, .int (nI (rn)), .ref ka, .ref kw, .int (nI (cn))])), (fa, .inl (cB, 8192, .inl (f))), (ga, .inl (cB, 8192, .inl (g))), (mr, .inl (cB, 64, .inl (rb))), (ka, .inl (cI, 1100, .inl (kd))), (kw, .inl (cI, 1100, .inl (wd))), (ou, .inl (cL, 1, .inr (.inl (ov))))] H) (hD : va_D (fm_AA s) [(h, .inr (3, [.ref bf, .ref li, .ref ra, .int (nI (rn)), .ref o, .ref sp, .int (nI (1))])), (bf, .inr (0, [.ref ba, .int (nI (n))])), (ba, .inl (cI, 2048, .inl (b))), (li, .inr (2, [.ref pa, .ref va, .ref na, .int (le), .int (nI (cn))])), (pa, .inl (cI, 1066, .inl (pd))), (va, .inl (cI, 1066, .inl (vl))), (na, .inl (cZ, 1066, .inl (kn))), (ra, .inl (cI, 64, .inl (rw))), (o, .inr (1, [.ref wa, .ref sa, .ref la, .int (nI (fm_HF (fm_RB g) 2)), .int (nI (fm_HF (fm_RB g) 3)), .int (nI (s0)), .int (nI (fm_z s0)), .int (nI (fm_h s0))])), (wa, .inl (cI, 2048, .inl (w))), (sa, .inl (cI, 10, .inl (st))), (la, .inl (cI, 10, .inl (ln))), (sp, .inr (1, [.ref wb, .ref sb, .ref lb, .int (bc2), .int (ec2), .int (sz2), .int (sc2), .int (hv2)])), (wb, .inl (cI, 2048, .inl (w2))), (sb, .inl (cI, 10, .inl (st2))), (lb, .inl (cI, 10, .inl (ln2))), (mo, .inr (4, [.int (th), .ref fa, .int (nI (n)), .ref ga, .int (nI (1)), .int (nI (s0)), .ref mr, .int (nI (rn)), .ref ka, .ref kw, .int (nI (cn))])), (fa, .inl (cB, 8192, .inl (f))), (ga, .inl (cB, 8192, .inl (g))), (mr, .inl (cB, 64, .inl (rb))), (ka, .inl (cI, 1100, .inl (kd))), (kw, .inl (cI, 1100, .inl (wd))), (ou, .inl (cL, 1, .inr (.inl (ov))))]) (hS : va_S (fm_AA s) s.heap H locs) (hl : lv_has ls 7 [(4, .int (nI (i4))), (3, .ref ou), (2, .ref mo), (1, .ref h), (0, .ref ab)]) (v : Nat) (hx1 : xs (i4 + 1) = nI v) (hv : v < 7) : W pg l ev room_1 s m #[Value.ref ab] below meth cd H locs cells slots Q (F0 m 258 ls []) := by
  obtain ⟨hl0, C0, hL8, hK, hTh, hNc⟩ := id CX
  obtain ⟨hx, hb, hr, hml, hown, hts, hX, hbl, hlocks, hgv⟩ := id C0
  have hbA : ¬ fm_AA s ab := Nat.not_le.mpr hbl
  have ht : ∀ w ∈ fm_T, w.before #[Value.ref ab] s = true := fun w h => hts w (fm_ofT h).1
  have hown : s.vm.findClass R_LW = some m.cls := hown
  have S : CallFix pg m cd code 7 s #[Value.ref ab] (Cond.initialized R_FM :: fm_T) R_LW := ⟨hx, hb, hml, hown, fun w h => (List.mem_cons.mp h).elim (fun e => by rw [e]; exact ht _ q_1_1) (ht w)⟩
  have hf0 : cells ≤ room_1.cells ∧ slots ≤ room_1.slots := ⟨show cells ≤ 1055 by omega, show slots ≤ 36376 by omega⟩
  have hf1 : cells + 1 ≤ room_1.cells ∧ slots + 6 ≤ room_1.slots := hc
  obtain ⟨j1, j2, j3, j4, j5, j6, j7, j8, j9, j10⟩ := id hJ
  obtain ⟨hF, hV, hs, -, -, -, -, -⟩ := j10 rfl
  have hz := hV.2.2.2.1
  have hLn := hV.1
  refine lv_aload_n hx hb d_LW_law_258 rfl (lv_at hl 3 rfl) ?_
  refine lv_aload_n hx hb d_LW_law_259 rfl (lv_at hl 4 rfl) ?_
  refine lv_iload hx hb d_LW_law_260 (lv_at hl 0 rfl) ?_
  refine lv_iconst (v := nI (1)) hx hb d_LW_law_262 (by decide) ?_
  refine lv_iadd hx hb d_LW_law_263 ?_
  refine fm_tw (z := nI (i4 + 1)) (nI_add _ _) ?_
  refine va_sld hx hb hX hbl hbA hS (vp_in_nI (by omega) (by omega)) d_LW_law_264 ?_
  refine fm_tw (z := nI (v)) (by rw [nI_clamp (by omega)]; exact hx1) ?_
  refine lv_aload_n hx hb d_LW_law_265 rfl (lv_at hl 1 rfl) ?_
  refine fm_wswP S (c_LW_aboutY l dC dI h bf li ra (nI (rn)) o sp wa sa la s0 cI (fm_RB g) w st ln v ou cL ov (hF) (hV) (hv)) rfl rfl k_LW_about q_2_143 ⟨Nat.le_of_ble_eq_true rfl, Nat.le_of_ble_eq_true rfl⟩ hP hD hS (hK.sub [0, 3] rfl) [0, 8, 9, 10, 11, 22] (by decide) (by decide) rfl rfl hl.1 rfl (Nat.le_of_ble_eq_true rfl) hf0 d_LW_law_266 rfl (fun H locs hP hD hS => ?_)
  have hP : va_P (dC, dI) classes [(h, .inr (3, [.ref bf, .ref li, .ref ra, .int (nI (rn)), .ref o, .ref sp, .int (nI (1))])), (bf, .inr (0, [.ref ba, .int (nI (n))])), (ba, .inl (cI, 2048, .inl (b))), (li, .inr (2, [.ref pa, .ref va, .ref na, .int (le), .int (nI (cn))])), (pa, .inl (cI, 1066, .inl (pd))), (va, .inl (cI, 1066, .inl (vl))), (na, .inl (cZ, 1066, .inl (kn))), (ra, .inl (cI, 64, .inl (rw))), (o, .inr (1, [.ref wa, .ref sa, .ref la, .int (nI (fm_HF (fm_RB g) 2)), .int (nI (fm_HF (fm_RB g) 3)), .int (nI (s0)), .int (nI (fm_z s0)), .int (nI (fm_h s0))])), (wa, .inl (cI, 2048, .inl (w))), (sa, .inl (cI, 10, .inl (st))), (la, .inl (cI, 10, .inl (ln))), (sp, .inr (1, [.ref wb, .ref sb, .ref lb, .int (bc2), .int (ec2), .int (sz2), .int (sc2), .int (hv2)])), (wb, .inl (cI, 2048, .inl (w2))), (sb, .inl (cI, 10, .inl (st2))), (lb, .inl (cI, 10, .inl (ln2))), (mo, .inr (4, [.int (th), .ref fa, .int (nI (n)), .ref ga, .int (nI (1)), .int (nI (s0)), .ref mr, .int (nI (rn)), .ref ka, .ref kw, .int (nI (cn))])), (fa, .inl (cB, 8192, .inl (f))), (ga, .inl (cB, 8192, .inl (g))), (mr, .inl (cB, 64, .inl (rb))), (ka, .inl (cI, 1100, .inl (kd))), (kw, .inl (cI, 1100, .inl (wd))), (ou, .inl (cL, 1, .inr (.inl (vp_updL ov 0 ((fm_ab (fm_RB g) s0 v).toInt64)))))] _ := hP
  have hD : va_D (fm_AA s) [(h, .inr (3, [.ref bf, .ref li, .ref ra, .int (nI (rn)), .ref o, .ref sp, .int (nI (1))])), (bf, .inr (0, [.ref ba, .int (nI (n))])), (ba, .inl (cI, 2048, .inl (b))), (li, .inr (2, [.ref pa, .ref va, .ref na, .int (le), .int (nI (cn))])), (pa, .inl (cI, 1066, .inl (pd))), (va, .inl (cI, 1066, .inl (vl))), (na, .inl (cZ, 1066, .inl (kn))), (ra, .inl (cI, 64, .inl (rw))), (o, .inr (1, [.ref wa, .ref sa, .ref la, .int (nI (fm_HF (fm_RB g) 2)), .int (nI (fm_HF (fm_RB g) 3)), .int (nI (s0)), .int (nI (fm_z s0)), .int (nI (fm_h s0))])), (wa, .inl (cI, 2048, .inl (w))), (sa, .inl (cI, 10, .inl (st))), (la, .inl (cI, 10, .inl (ln))), (sp, .inr (1, [.ref wb, .ref sb, .ref lb, .int (bc2), .int (ec2), .int (sz2), .int (sc2), .int (hv2)])), (wb, .inl (cI, 2048, .inl (w2))), (sb, .inl (cI, 10, .inl (st2))), (lb, .inl (cI, 10, .inl (ln2))), (mo, .inr (4, [.int (th), .ref fa, .int (nI (n)), .ref ga, .int (nI (1)), .int (nI (s0)), .ref mr, .int (nI (rn)), .ref ka, .ref kw, .int (nI (cn))])), (fa, .inl (cB, 8192, .inl (f))), (ga, .inl (cB, 8192, .inl (g))), (mr, .inl (cB, 64, .inl (rb))), (ka, .inl (cI, 1100, .inl (kd))), (kw, .inl (cI, 1100, .inl (wd))), (ou, .inl (cL, 1, .inr (.inl (vp_updL ov 0 ((fm_ab (fm_RB g) s0 v).toInt64)))))] := hD
  refine lv_istore (lv' := [(5, .int (nI (0))), (4, .int (nI (i4))), (3, .ref ou), (2, .ref mo), (1, .ref h), (0, .ref ab)]) hx hb d_LW_law_269 hl (by decide) rfl (fun ls hl => ?_)
  refine lv_aload_n hx hb d_LW_law_271 rfl (lv_at hl 3 rfl) ?_
  refine lv_aload_n hx hb d_LW_law_272 rfl (lv_at hl 5 rfl) ?_
  refine lv_iload hx hb d_LW_law_273 (lv_at hl 1 rfl) ?_
  refine lv_iconst (v := nI (1)) hx hb d_LW_law_275 (by decide) ?_
  refine lv_iadd hx hb d_LW_law_276 ?_
  refine fm_tw (z := nI (i4 + 1)) (nI_add _ _) ?_
  refine va_sld hx hb hX hbl hbA hS (vp_in_nI (by omega) (by omega)) d_LW_law_277 ?_
  refine fm_tw (z := nI (v)) (by rw [nI_clamp (by omega)]; exact hx1) ?_
  refine fm_wvP S (c_MO_aboutY l dC dI mo th fa (nI (n)) ga mr (nI (rn)) ka kw (nI (cn)) s0 cB g v (hLn) (hv)) rfl rfl k_MO_about q_3_227 ⟨Nat.le_of_ble_eq_true rfl, Nat.le_of_ble_eq_true rfl⟩ hP hD hS (hK.sub [2] rfl) [16, 18] (by decide) (by decide) rfl 0 rfl rfl rfl hl.1 rfl (Nat.le_of_ble_eq_true rfl) hf0 d_LW_law_278 rfl (fun H locs hP hD hS => ?_)
  have hP : va_P (dC, dI) classes [(h, .inr (3, [.ref bf, .ref li, .ref ra, .int (nI (rn)), .ref o, .ref sp, .int (nI (1))])), (bf, .inr (0, [.ref ba, .int (nI (n))])), (ba, .inl (cI, 2048, .inl (b))), (li, .inr (2, [.ref pa, .ref va, .ref na, .int (le), .int (nI (cn))])), (pa, .inl (cI, 1066, .inl (pd))), (va, .inl (cI, 1066, .inl (vl))), (na, .inl (cZ, 1066, .inl (kn))), (ra, .inl (cI, 64, .inl (rw))), (o, .inr (1, [.ref wa, .ref sa, .ref la, .int (nI (fm_HF (fm_RB g) 2)), .int (nI (fm_HF (fm_RB g) 3)), .int (nI (s0)), .int (nI (fm_z s0)), .int (nI (fm_h s0))])), (wa, .inl (cI, 2048, .inl (w))), (sa, .inl (cI, 10, .inl (st))), (la, .inl (cI, 10, .inl (ln))), (sp, .inr (1, [.ref wb, .ref sb, .ref lb, .int (bc2), .int (ec2), .int (sz2), .int (sc2), .int (hv2)])), (wb, .inl (cI, 2048, .inl (w2))), (sb, .inl (cI, 10, .inl (st2))), (lb, .inl (cI, 10, .inl (ln2))), (mo, .inr (4, [.int (nI (0)), .ref fa, .int (nI (n)), .ref ga, .int (nI (1)), .int (nI (s0)), .ref mr, .int (nI (rn)), .ref ka, .ref kw, .int (nI (cn))])), (fa, .inl (cB, 8192, .inl (f))), (ga, .inl (cB, 8192, .inl (g))), (mr, .inl (cB, 64, .inl (rb))), (ka, .inl (cI, 1100, .inl (kd))), (kw, .inl (cI, 1100, .inl (wd))), (ou, .inl (cL, 1, .inr (.inl (vp_updL ov 0 ((fm_ab (fm_RB g) s0 v).toInt64)))))] _ := hP
  have hD : va_D (fm_AA s) [(h, .inr (3, [.ref bf, .ref li, .ref ra, .int (nI (rn)), .ref o, .ref sp, .int (nI (1))])), (bf, .inr (0, [.ref ba, .int (nI (n))])), (ba, .inl (cI, 2048, .inl (b))), (li, .inr (2, [.ref pa, .ref va, .ref na, .int (le), .int (nI (cn))])), (pa, .inl (cI, 1066, .inl (pd))), (va, .inl (cI, 1066, .inl (vl))), (na, .inl (cZ, 1066, .inl (kn))), (ra, .inl (cI, 64, .inl (rw))), (o, .inr (1, [.ref wa, .ref sa, .ref la, .int (nI (fm_HF (fm_RB g) 2)), .int (nI (fm_HF (fm_RB g) 3)), .int (nI (s0)), .int (nI (fm_z s0)), .int (nI (fm_h s0))])), (wa, .inl (cI, 2048, .inl (w))), (sa, .inl (cI, 10, .inl (st))), (la, .inl (cI, 10, .inl (ln))), (sp, .inr (1, [.ref wb, .ref sb, .ref lb, .int (bc2), .int (ec2), .int (sz2), .int (sc2), .int (hv2)])), (wb, .inl (cI, 2048, .inl (w2))), (sb, .inl (cI, 10, .inl (st2))), (lb, .inl (cI, 10, .inl (ln2))), (mo, .inr (4, [.int (nI (0)), .ref fa, .int (nI (n)), .ref ga, .int (nI (1)), .int (nI (s0)), .ref mr, .int (nI (rn)), .ref ka, .ref kw, .int (nI (cn))])), (fa, .inl (cB, 8192, .inl (f))), (ga, .inl (cB, 8192, .inl (g))), (mr, .inl (cB, 64, .inl (rb))), (ka, .inl (cI, 1100, .inl (kd))), (kw, .inl (cI, 1100, .inl (wd))), (ou, .inl (cL, 1, .inr (.inl (vp_updL ov 0 ((fm_ab (fm_RB g) s0 v).toInt64)))))] := hD
  refine lv_istore (lv' := [(6, .int (fm_ab (fm_RB g) s0 v)), (5, .int (nI (0))), (4, .int (nI (i4))), (3, .ref ou), (2, .ref mo), (1, .ref h), (0, .ref ab)]) hx hb d_LW_law_281 hl (by decide) rfl (fun ls hl => ?_)
  refine lv_aload_n hx hb d_LW_law_283 rfl (lv_at hl 4 rfl) ?_
  refine fm_cv S (c_MO_thrown l dC dI mo (nI (0)) fa (nI (n)) ga (nI (1)) (nI (s0)) mr (nI (rn)) ka kw (nI (cn)) ) rfl rfl k_MO_thrown q_3_147 ⟨Nat.le_of_ble_eq_true rfl, Nat.le_of_ble_eq_true rfl⟩ (hP.sub [16] rfl) (hK.sub [] rfl) 0 rfl rfl rfl hl.1 rfl (Nat.le_of_ble_eq_true rfl) hf0 d_LW_law_284 ?_
  refine lv_iload hx hb d_LW_law_287 (lv_at hl 1 rfl) ?_
  refine lv_icmp_eq (tgt := 294) hx hb d_LW_law_289 (by decide) (fun c0 => ?_) (fun c0 => ?_)
  · have c_289 : 0 = 0 := (nI_eq (a := 0) (b := 0) (by omega) (by omega)).mp c0
    refine lv_iload hx hb d_LW_law_294 (lv_at hl 1 rfl) ?_
    refine lv_if_ne (tgt := 311) hx hb d_LW_law_296 (by decide) (fun c0 => ?_) (fun c0 => ?_)
    · have c_296 : ¬ (0 = 0) := fun z => c0 ((nI_eq (a := 0) (b := 0) (by omega) (by omega)).mpr z)
      exact absurd c_296 (by decide)
    · have c_296 : 0 = 0 := (nI_eq (a := 0) (b := 0) (by omega) (by omega)).mp c0
      refine lv_aload_n hx hb d_LW_law_299 rfl (lv_at hl 3 rfl) ?_
      refine lv_iconst (v := nI (0)) hx hb d_LW_law_300 (by decide) ?_
      refine va_lald hx hb hK hP 22 3 rfl rfl (vp_in_nI (by decide) (by decide)) d_LW_law_301 ?_
      refine fm_twl (z := (fm_ab (fm_RB g) s0 v).toInt64) (by rw [nI_clamp (by decide)]; exact fm_updL0 _ _) ?_
      refine lv_iload hx hb d_LW_law_302 (lv_at hl 0 rfl) ?_
      refine lv_i2l (v := ((fm_ab (fm_RB g) s0 v)).toInt64) hx hb d_LW_law_304 rfl ?_
      refine W.lcmp hx hb d_LW_law_305 ?_
      refine lv_if_eq (tgt := 311) hx hb d_LW_law_306 (by decide) (fun c0 => ?_) (fun c0 => ?_)
      · have c_306 := c0
        refine lv_goto (tgt := 801) hx hb d_LW_law_311 (by decide) ?_
        refine W.widen (k := cells + 1) (n := slots + 6) (by omega) (by omega) ?_
        exact k801 _ _ _ ⟨bf, ba, li, pa, va, na, ra, o, wa, sa, la, sp, wb, sb, lb, fa, ga, mr, ka, kw, n, b, rn, rw, 1, ((le)), cn, pd, vl, kn, (nI (fm_HF (fm_RB g) 2)), (nI (fm_HF (fm_RB g) 3)), (nI (s0)), (nI (fm_z s0)), (nI (fm_h s0)), w, st, ln, ((bc2)), ((ec2)), ((sz2)), ((sc2)), ((hv2)), w2, st2, ln2, (nI (0)), f, g, s0, rb, kd, wd, (vp_updL ov 0 ((fm_ab (fm_RB g) s0 v).toInt64)), hJ, hP, hD, hS⟩ (lv_sub hl [2, 3, 4, 5, 6] rfl)
      · have c_306 := c0
        exact absurd (fm_lcmp0 _) c_306
  · have c_289 : ¬ (0 = 0) := fun z => c0 ((nI_eq (a := 0) (b := 0) (by omega) (by omega)).mpr z)
    exact absurd c_289 (by decide)
set_option maxHeartbeats 4000000 in
set_option maxRecDepth 100000 in
theorem lc_ofN1 {pg : Program} {l : Launch} {ev : Env} {s : State} {m : MethodId} {below : List Frame} {meth : Method} {cd : Code} {ab L : Nat} {xs : Nat → Int32} {dC : Nat → ClassId} {dI : Nat → Nat → Nat} {cI cZ cB cL : ClassId} {Q : State → Prop} {cells slots i4 h mo ou : Nat} (CX : fm_CX pg l s m meth cd ab L xs dC dI cI cZ cB cL) (hc : cells + 1 ≤ 1055 ∧ slots + 6 ≤ 36376) (hi : i4 + 4 ≤ L) (k801 : fm_K8 pg l ev s m ab below meth cd dC dI cI cZ cB cL Q cells slots h mo ou i4) {bf ba li pa va na ra o wa sa la sp wb sb lb fa ga mr ka kw : Nat} {n : Nat} {b : Nat → Int32} {rn : Nat} {rw : Nat → Int32} {le : Int32} {cn : Nat} {pd : Nat → Int32} {vl : Nat → Int32} {kn : Nat → Int32} {w : Nat → Int32} {st : Nat → Int32} {ln : Nat → Int32} {bc2 : Int32} {ec2 : Int32} {sz2 : Int32} {sc2 : Int32} {hv2 : Int32} {w2 : Nat → Int32} {st2 : Nat → Int32} {ln2 : Nat → Int32} {th : Int32} {f : Nat → Int32} {g : Nat → Int32} {s0 : Nat} {rb : Nat → Int32} {kd : Nat → Int32} {wd : Nat → Int32} {ov : Nat → Int64} (hJ : fm_J n b f rn rw rb 1 cn vl kn kd wd g s0 (nI (fm_HF (fm_RB g) 2)) (nI (fm_HF (fm_RB g) 3)) (nI (s0)) (nI (fm_z s0)) (nI (fm_h s0)) w st ln) {H : Heap} {locs : List Loc} {ls : Array Slot} (hP : va_P (dC, dI) classes [(h, .inr (3, [.ref bf, .ref li, .ref ra, .int (nI (rn)), .ref o, .ref sp, .int (nI (1))])), (bf, .inr (0, [.ref ba, .int (nI (n))])), (ba, .inl (cI, 2048, .inl (b))), (li, .inr (2, [.ref pa, .ref va, .ref na, .int (le), .int (nI (cn))])), (pa, .inl (cI, 1066, .inl (pd))), (va, .inl (cI, 1066, .inl (vl))), (na, .inl (cZ, 1066, .inl (kn))), (ra, .inl (cI, 64, .inl (rw))), (o, .inr (1, [.ref wa, .ref sa, .ref la, .int (nI (fm_HF (fm_RB g) 2)), .int (nI (fm_HF (fm_RB g) 3)), .int (nI (s0)), .int (nI (fm_z s0)), .int (nI (fm_h s0))])), (wa, .inl (cI, 2048, .inl (w))), (sa, .inl (cI, 10, .inl (st))), (la, .inl (cI, 10, .inl (ln))), (sp, .inr (1, [.ref wb, .ref sb, .ref lb, .int (bc2), .int (ec2), .int (sz2), .int (sc2), .int (hv2)])), (wb, .inl (cI, 2048, .inl (w2))), (sb, .inl (cI, 10, .inl (st2))), (lb, .inl (cI, 10, .inl (ln2))), (mo, .inr (4, [.int (th), .ref fa, .int (nI (n)), .ref ga, .int (nI (1)), .int (nI (s0)), .ref mr, .int (nI (rn)), .ref ka, .ref kw, .int (nI (cn))])), (fa, .inl (cB, 8192, .inl (f))), (ga, .inl (cB, 8192, .inl (g))), (mr, .inl (cB, 64, .inl (rb))), (ka, .inl (cI, 1100, .inl (kd))), (kw, .inl (cI, 1100, .inl (wd))), (ou, .inl (cL, 1, .inr (.inl (ov))))] H) (hD : va_D (fm_AA s) [(h, .inr (3, [.ref bf, .ref li, .ref ra, .int (nI (rn)), .ref o, .ref sp, .int (nI (1))])), (bf, .inr (0, [.ref ba, .int (nI (n))])), (ba, .inl (cI, 2048, .inl (b))), (li, .inr (2, [.ref pa, .ref va, .ref na, .int (le), .int (nI (cn))])), (pa, .inl (cI, 1066, .inl (pd))), (va, .inl (cI, 1066, .inl (vl))), (na, .inl (cZ, 1066, .inl (kn))), (ra, .inl (cI, 64, .inl (rw))), (o, .inr (1, [.ref wa, .ref sa, .ref la, .int (nI (fm_HF (fm_RB g) 2)), .int (nI (fm_HF (fm_RB g) 3)), .int (nI (s0)), .int (nI (fm_z s0)), .int (nI (fm_h s0))])), (wa, .inl (cI, 2048, .inl (w))), (sa, .inl (cI, 10, .inl (st))), (la, .inl (cI, 10, .inl (ln))), (sp, .inr (1, [.ref wb, .ref sb, .ref lb, .int (bc2), .int (ec2), .int (sz2), .int (sc2), .int (hv2)])), (wb, .inl (cI, 2048, .inl (w2))), (sb, .inl (cI, 10, .inl (st2))), (lb, .inl (cI, 10, .inl (ln2))), (mo, .inr (4, [.int (th), .ref fa, .int (nI (n)), .ref ga, .int (nI (1)), .int (nI (s0)), .ref mr, .int (nI (rn)), .ref ka, .ref kw, .int (nI (cn))])), (fa, .inl (cB, 8192, .inl (f))), (ga, .inl (cB, 8192, .inl (g))), (mr, .inl (cB, 64, .inl (rb))), (ka, .inl (cI, 1100, .inl (kd))), (kw, .inl (cI, 1100, .inl (wd))), (ou, .inl (cL, 1, .inr (.inl (ov))))]) (hS : va_S (fm_AA s) s.heap H locs) (hl : lv_has ls 7 [(4, .int (nI (i4))), (3, .ref ou), (2, .ref mo), (1, .ref h), (0, .ref ab)]) (x1 : Int32) (x2 : Int32) (hx1 : xs (i4 + 1) = x1) (hx2 : xs (i4 + 2) = x2) (hno : fm_thI (fm_RB g) x1 = false) : W pg l ev room_1 s m #[Value.ref ab] below meth cd H locs cells slots Q (F0 m 339 ls []) := by
  obtain ⟨hl0, C0, hL8, hK, hTh, hNc⟩ := id CX
  obtain ⟨hx, hb, hr, hml, hown, hts, hX, hbl, hlocks, hgv⟩ := id C0
  have hbA : ¬ fm_AA s ab := Nat.not_le.mpr hbl
  have ht : ∀ w ∈ fm_T, w.before #[Value.ref ab] s = true := fun w h => hts w (fm_ofT h).1
  have hown : s.vm.findClass R_LW = some m.cls := hown
  have S : CallFix pg m cd code 7 s #[Value.ref ab] (Cond.initialized R_FM :: fm_T) R_LW := ⟨hx, hb, hml, hown, fun w h => (List.mem_cons.mp h).elim (fun e => by rw [e]; exact ht _ q_1_1) (ht w)⟩
  have hf0 : cells ≤ room_1.cells ∧ slots ≤ room_1.slots := ⟨show cells ≤ 1055 by omega, show slots ≤ 36376 by omega⟩
  have hf1 : cells + 1 ≤ room_1.cells ∧ slots + 6 ≤ room_1.slots := hc
  obtain ⟨j1, j2, j3, j4, j5, j6, j7, j8, j9, j10⟩ := id hJ
  obtain ⟨hF, hV, hs, -, -, -, -, -⟩ := j10 rfl
  have hz := hV.2.2.2.1
  have hLn := hV.1
  refine lv_aload_n hx hb d_LW_law_339 rfl (lv_at hl 3 rfl) ?_
  refine lv_aload_n hx hb d_LW_law_340 rfl (lv_at hl 4 rfl) ?_
  refine lv_iload hx hb d_LW_law_341 (lv_at hl 0 rfl) ?_
  refine lv_iconst (v := nI (1)) hx hb d_LW_law_343 (by decide) ?_
  refine lv_iadd hx hb d_LW_law_344 ?_
  refine fm_tw (z := nI (i4 + 1)) (nI_add _ _) ?_
  refine va_sld hx hb hX hbl hbA hS (vp_in_nI (by omega) (by omega)) d_LW_law_345 ?_
  refine fm_tw (z := (x1)) (by rw [nI_clamp (by omega)]; exact hx1) ?_
  refine lv_aload_n hx hb d_LW_law_346 rfl (lv_at hl 4 rfl) ?_
  refine lv_iload hx hb d_LW_law_347 (lv_at hl 0 rfl) ?_
  refine lv_iconst (v := nI (2)) hx hb d_LW_law_349 (by decide) ?_
  refine lv_iadd hx hb d_LW_law_350 ?_
  refine fm_tw (z := nI (i4 + 2)) (nI_add _ _) ?_
  refine va_sld hx hb hX hbl hbA hS (vp_in_nI (by omega) (by omega)) d_LW_law_351 ?_
  refine fm_tw (z := (x2)) (by rw [nI_clamp (by omega)]; exact hx2) ?_
  refine lv_aload_n hx hb d_LW_law_352 rfl (lv_at hl 1 rfl) ?_
  refine fm_csw S (x_LW_ofN1 l hl0 dC dI h bf li ra (nI (rn)) o sp wa sa la s0 cI (fm_RB g) w st ln x1 x2 ou (hF) (hno)) rfl rfl k_LW_of q_2_196 ⟨Nat.le_of_ble_eq_true rfl, Nat.le_of_ble_eq_true rfl⟩ hP hS (hK.sub [0] rfl) (hTh _ _ hS) hNc [0, 8, 9, 10, 11] rfl rfl hl.1 rfl (Nat.le_of_ble_eq_true rfl) hf1 d_LW_law_353 (fun H hz9 hk9 hP hS => ?_)
  refine lv_istore (lv' := [(5, .int (nI (2))), (4, .int (nI (i4))), (3, .ref ou), (2, .ref mo), (1, .ref h), (0, .ref ab)]) hx hb d_LW_law_356 hl (by decide) rfl (fun ls hl => ?_)
  refine lv_aload_n hx hb d_LW_law_358 rfl (lv_at hl 3 rfl) ?_
  refine lv_aload_n hx hb d_LW_law_359 rfl (lv_at hl 5 rfl) ?_
  refine lv_iload hx hb d_LW_law_360 (lv_at hl 1 rfl) ?_
  refine lv_iconst (v := nI (1)) hx hb d_LW_law_362 (by decide) ?_
  refine lv_iadd hx hb d_LW_law_363 ?_
  refine fm_tw (z := nI (i4 + 1)) (nI_add _ _) ?_
  refine va_sld hx hb hX hbl hbA hS (vp_in_nI (by omega) (by omega)) d_LW_law_364 ?_
  refine fm_tw (z := (x1)) (by rw [nI_clamp (by omega)]; exact hx1) ?_
  refine lv_aload_n hx hb d_LW_law_365 rfl (lv_at hl 5 rfl) ?_
  refine lv_iload hx hb d_LW_law_366 (lv_at hl 1 rfl) ?_
  refine lv_iconst (v := nI (2)) hx hb d_LW_law_368 (by decide) ?_
  refine lv_iadd hx hb d_LW_law_369 ?_
  refine fm_tw (z := nI (i4 + 2)) (nI_add _ _) ?_
  refine va_sld hx hb hX hbl hbA hS (vp_in_nI (by omega) (by omega)) d_LW_law_370 ?_
  refine fm_tw (z := (x2)) (by rw [nI_clamp (by omega)]; exact hx2) ?_
  refine fm_wvP S (c_MO_ofN l dC dI mo th fa (nI (n)) ga mr (nI (rn)) ka kw (nI (cn)) s0 cB g x1 x2 (hLn) (Or.inl hno)) rfl rfl k_MO_of q_3_238 ⟨Nat.le_of_ble_eq_true rfl, Nat.le_of_ble_eq_true rfl⟩ hP hD hS (hK.sub [2] rfl) [16, 18] (by decide) (by decide) rfl 0 rfl rfl rfl hl.1 rfl (Nat.le_of_ble_eq_true rfl) hf1 d_LW_law_371 rfl (fun H locs hP hD hS => ?_)
  have hP : va_P (dC, dI) classes [(h, .inr (3, [.ref bf, .ref li, .ref ra, .int (nI (rn)), .ref o, .ref sp, .int (nI (1))])), (bf, .inr (0, [.ref ba, .int (nI (n))])), (ba, .inl (cI, 2048, .inl (b))), (li, .inr (2, [.ref pa, .ref va, .ref na, .int (le), .int (nI (cn))])), (pa, .inl (cI, 1066, .inl (pd))), (va, .inl (cI, 1066, .inl (vl))), (na, .inl (cZ, 1066, .inl (kn))), (ra, .inl (cI, 64, .inl (rw))), (o, .inr (1, [.ref wa, .ref sa, .ref la, .int (nI (fm_HF (fm_RB g) 2)), .int (nI (fm_HF (fm_RB g) 3)), .int (nI (s0)), .int (nI (fm_z s0)), .int (nI (fm_h s0))])), (wa, .inl (cI, 2048, .inl (w))), (sa, .inl (cI, 10, .inl (st))), (la, .inl (cI, 10, .inl (ln))), (sp, .inr (1, [.ref wb, .ref sb, .ref lb, .int (bc2), .int (ec2), .int (sz2), .int (sc2), .int (hv2)])), (wb, .inl (cI, 2048, .inl (w2))), (sb, .inl (cI, 10, .inl (st2))), (lb, .inl (cI, 10, .inl (ln2))), (mo, .inr (4, [.int (nI (2)), .ref fa, .int (nI (n)), .ref ga, .int (nI (1)), .int (nI (s0)), .ref mr, .int (nI (rn)), .ref ka, .ref kw, .int (nI (cn))])), (fa, .inl (cB, 8192, .inl (f))), (ga, .inl (cB, 8192, .inl (g))), (mr, .inl (cB, 64, .inl (rb))), (ka, .inl (cI, 1100, .inl (kd))), (kw, .inl (cI, 1100, .inl (wd))), (ou, .inl (cL, 1, .inr (.inl (ov))))] _ := hP
  have hD : va_D (fm_AA s) [(h, .inr (3, [.ref bf, .ref li, .ref ra, .int (nI (rn)), .ref o, .ref sp, .int (nI (1))])), (bf, .inr (0, [.ref ba, .int (nI (n))])), (ba, .inl (cI, 2048, .inl (b))), (li, .inr (2, [.ref pa, .ref va, .ref na, .int (le), .int (nI (cn))])), (pa, .inl (cI, 1066, .inl (pd))), (va, .inl (cI, 1066, .inl (vl))), (na, .inl (cZ, 1066, .inl (kn))), (ra, .inl (cI, 64, .inl (rw))), (o, .inr (1, [.ref wa, .ref sa, .ref la, .int (nI (fm_HF (fm_RB g) 2)), .int (nI (fm_HF (fm_RB g) 3)), .int (nI (s0)), .int (nI (fm_z s0)), .int (nI (fm_h s0))])), (wa, .inl (cI, 2048, .inl (w))), (sa, .inl (cI, 10, .inl (st))), (la, .inl (cI, 10, .inl (ln))), (sp, .inr (1, [.ref wb, .ref sb, .ref lb, .int (bc2), .int (ec2), .int (sz2), .int (sc2), .int (hv2)])), (wb, .inl (cI, 2048, .inl (w2))), (sb, .inl (cI, 10, .inl (st2))), (lb, .inl (cI, 10, .inl (ln2))), (mo, .inr (4, [.int (nI (2)), .ref fa, .int (nI (n)), .ref ga, .int (nI (1)), .int (nI (s0)), .ref mr, .int (nI (rn)), .ref ka, .ref kw, .int (nI (cn))])), (fa, .inl (cB, 8192, .inl (f))), (ga, .inl (cB, 8192, .inl (g))), (mr, .inl (cB, 64, .inl (rb))), (ka, .inl (cI, 1100, .inl (kd))), (kw, .inl (cI, 1100, .inl (wd))), (ou, .inl (cL, 1, .inr (.inl (ov))))] := hD
  refine lv_istore (lv' := [(6, .int (nI (0))), (5, .int (nI (2))), (4, .int (nI (i4))), (3, .ref ou), (2, .ref mo), (1, .ref h), (0, .ref ab)]) hx hb d_LW_law_374 hl (by decide) rfl (fun ls hl => ?_)
  refine lv_aload_n hx hb d_LW_law_376 rfl (lv_at hl 4 rfl) ?_
  refine fm_cv S (c_MO_thrown l dC dI mo (nI (2)) fa (nI (n)) ga (nI (1)) (nI (s0)) mr (nI (rn)) ka kw (nI (cn)) ) rfl rfl k_MO_thrown q_3_147 ⟨Nat.le_of_ble_eq_true rfl, Nat.le_of_ble_eq_true rfl⟩ (hP.sub [16] rfl) (hK.sub [] rfl) 0 rfl rfl rfl hl.1 rfl (Nat.le_of_ble_eq_true rfl) hf1 d_LW_law_377 ?_
  refine lv_iload hx hb d_LW_law_380 (lv_at hl 1 rfl) ?_
  refine lv_icmp_eq (tgt := 387) hx hb d_LW_law_382 (by decide) (fun c0 => ?_) (fun c0 => ?_)
  · have c_382 : 2 = 2 := (nI_eq (a := 2) (b := 2) (by omega) (by omega)).mp c0
    refine lv_iload hx hb d_LW_law_387 (lv_at hl 1 rfl) ?_
    refine lv_if_ne (tgt := 404) hx hb d_LW_law_389 (by decide) (fun c0 => ?_) (fun c0 => ?_)
    · have c_389 : ¬ (2 = 0) := fun z => c0 ((nI_eq (a := 2) (b := 0) (by omega) (by omega)).mpr z)
      refine lv_goto (tgt := 801) hx hb d_LW_law_404 (by decide) ?_
      refine W.widen (k := cells + 1) (n := slots + 6) (by omega) (by omega) ?_
      exact k801 _ _ _ ⟨bf, ba, li, pa, va, na, ra, o, wa, sa, la, sp, wb, sb, lb, fa, ga, mr, ka, kw, n, b, rn, rw, 1, ((le)), cn, pd, vl, kn, (nI (fm_HF (fm_RB g) 2)), (nI (fm_HF (fm_RB g) 3)), (nI (s0)), (nI (fm_z s0)), (nI (fm_h s0)), w, st, ln, ((bc2)), ((ec2)), ((sz2)), ((sc2)), ((hv2)), w2, st2, ln2, (nI (2)), f, g, s0, rb, kd, wd, ov, hJ, hP, hD, hS⟩ (lv_sub hl [2, 3, 4, 5, 6] rfl)
    · have c_389 : 2 = 0 := (nI_eq (a := 2) (b := 0) (by omega) (by omega)).mp c0
      exact absurd c_389 (by decide)
  · have c_382 : ¬ (2 = 2) := fun z => c0 ((nI_eq (a := 2) (b := 2) (by omega) (by omega)).mpr z)
    exact absurd c_382 (by decide)
set_option maxHeartbeats 4000000 in
set_option maxRecDepth 100000 in
theorem lc_ofN2 {pg : Program} {l : Launch} {ev : Env} {s : State} {m : MethodId} {below : List Frame} {meth : Method} {cd : Code} {ab L : Nat} {xs : Nat → Int32} {dC : Nat → ClassId} {dI : Nat → Nat → Nat} {cI cZ cB cL : ClassId} {Q : State → Prop} {cells slots i4 h mo ou : Nat} (CX : fm_CX pg l s m meth cd ab L xs dC dI cI cZ cB cL) (hc : cells + 1 ≤ 1055 ∧ slots + 6 ≤ 36376) (hi : i4 + 4 ≤ L) (k801 : fm_K8 pg l ev s m ab below meth cd dC dI cI cZ cB cL Q cells slots h mo ou i4) {bf ba li pa va na ra o wa sa la sp wb sb lb fa ga mr ka kw : Nat} {n : Nat} {b : Nat → Int32} {rn : Nat} {rw : Nat → Int32} {le : Int32} {cn : Nat} {pd : Nat → Int32} {vl : Nat → Int32} {kn : Nat → Int32} {w : Nat → Int32} {st : Nat → Int32} {ln : Nat → Int32} {bc2 : Int32} {ec2 : Int32} {sz2 : Int32} {sc2 : Int32} {hv2 : Int32} {w2 : Nat → Int32} {st2 : Nat → Int32} {ln2 : Nat → Int32} {th : Int32} {f : Nat → Int32} {g : Nat → Int32} {s0 : Nat} {rb : Nat → Int32} {kd : Nat → Int32} {wd : Nat → Int32} {ov : Nat → Int64} (hJ : fm_J n b f rn rw rb 1 cn vl kn kd wd g s0 (nI (fm_HF (fm_RB g) 2)) (nI (fm_HF (fm_RB g) 3)) (nI (s0)) (nI (fm_z s0)) (nI (fm_h s0)) w st ln) {H : Heap} {locs : List Loc} {ls : Array Slot} (hP : va_P (dC, dI) classes [(h, .inr (3, [.ref bf, .ref li, .ref ra, .int (nI (rn)), .ref o, .ref sp, .int (nI (1))])), (bf, .inr (0, [.ref ba, .int (nI (n))])), (ba, .inl (cI, 2048, .inl (b))), (li, .inr (2, [.ref pa, .ref va, .ref na, .int (le), .int (nI (cn))])), (pa, .inl (cI, 1066, .inl (pd))), (va, .inl (cI, 1066, .inl (vl))), (na, .inl (cZ, 1066, .inl (kn))), (ra, .inl (cI, 64, .inl (rw))), (o, .inr (1, [.ref wa, .ref sa, .ref la, .int (nI (fm_HF (fm_RB g) 2)), .int (nI (fm_HF (fm_RB g) 3)), .int (nI (s0)), .int (nI (fm_z s0)), .int (nI (fm_h s0))])), (wa, .inl (cI, 2048, .inl (w))), (sa, .inl (cI, 10, .inl (st))), (la, .inl (cI, 10, .inl (ln))), (sp, .inr (1, [.ref wb, .ref sb, .ref lb, .int (bc2), .int (ec2), .int (sz2), .int (sc2), .int (hv2)])), (wb, .inl (cI, 2048, .inl (w2))), (sb, .inl (cI, 10, .inl (st2))), (lb, .inl (cI, 10, .inl (ln2))), (mo, .inr (4, [.int (th), .ref fa, .int (nI (n)), .ref ga, .int (nI (1)), .int (nI (s0)), .ref mr, .int (nI (rn)), .ref ka, .ref kw, .int (nI (cn))])), (fa, .inl (cB, 8192, .inl (f))), (ga, .inl (cB, 8192, .inl (g))), (mr, .inl (cB, 64, .inl (rb))), (ka, .inl (cI, 1100, .inl (kd))), (kw, .inl (cI, 1100, .inl (wd))), (ou, .inl (cL, 1, .inr (.inl (ov))))] H) (hD : va_D (fm_AA s) [(h, .inr (3, [.ref bf, .ref li, .ref ra, .int (nI (rn)), .ref o, .ref sp, .int (nI (1))])), (bf, .inr (0, [.ref ba, .int (nI (n))])), (ba, .inl (cI, 2048, .inl (b))), (li, .inr (2, [.ref pa, .ref va, .ref na, .int (le), .int (nI (cn))])), (pa, .inl (cI, 1066, .inl (pd))), (va, .inl (cI, 1066, .inl (vl))), (na, .inl (cZ, 1066, .inl (kn))), (ra, .inl (cI, 64, .inl (rw))), (o, .inr (1, [.ref wa, .ref sa, .ref la, .int (nI (fm_HF (fm_RB g) 2)), .int (nI (fm_HF (fm_RB g) 3)), .int (nI (s0)), .int (nI (fm_z s0)), .int (nI (fm_h s0))])), (wa, .inl (cI, 2048, .inl (w))), (sa, .inl (cI, 10, .inl (st))), (la, .inl (cI, 10, .inl (ln))), (sp, .inr (1, [.ref wb, .ref sb, .ref lb, .int (bc2), .int (ec2), .int (sz2), .int (sc2), .int (hv2)])), (wb, .inl (cI, 2048, .inl (w2))), (sb, .inl (cI, 10, .inl (st2))), (lb, .inl (cI, 10, .inl (ln2))), (mo, .inr (4, [.int (th), .ref fa, .int (nI (n)), .ref ga, .int (nI (1)), .int (nI (s0)), .ref mr, .int (nI (rn)), .ref ka, .ref kw, .int (nI (cn))])), (fa, .inl (cB, 8192, .inl (f))), (ga, .inl (cB, 8192, .inl (g))), (mr, .inl (cB, 64, .inl (rb))), (ka, .inl (cI, 1100, .inl (kd))), (kw, .inl (cI, 1100, .inl (wd))), (ou, .inl (cL, 1, .inr (.inl (ov))))]) (hS : va_S (fm_AA s) s.heap H locs) (hl : lv_has ls 7 [(4, .int (nI (i4))), (3, .ref ou), (2, .ref mo), (1, .ref h), (0, .ref ab)]) (c : Nat) (x2 : Int32) (hx1 : xs (i4 + 1) = nI c) (hx2 : xs (i4 + 2) = x2) (hth : fm_th (fm_RB g) c = true) (hc31 : c < 2 ^ 31) (hno : x2 < 0 ∨ nI 5 < x2) : W pg l ev room_1 s m #[Value.ref ab] below meth cd H locs cells slots Q (F0 m 339 ls []) := by
  obtain ⟨hl0, C0, hL8, hK, hTh, hNc⟩ := id CX
  obtain ⟨hx, hb, hr, hml, hown, hts, hX, hbl, hlocks, hgv⟩ := id C0
  have hbA : ¬ fm_AA s ab := Nat.not_le.mpr hbl
  have ht : ∀ w ∈ fm_T, w.before #[Value.ref ab] s = true := fun w h => hts w (fm_ofT h).1
  have hown : s.vm.findClass R_LW = some m.cls := hown
  have S : CallFix pg m cd code 7 s #[Value.ref ab] (Cond.initialized R_FM :: fm_T) R_LW := ⟨hx, hb, hml, hown, fun w h => (List.mem_cons.mp h).elim (fun e => by rw [e]; exact ht _ q_1_1) (ht w)⟩
  have hf0 : cells ≤ room_1.cells ∧ slots ≤ room_1.slots := ⟨show cells ≤ 1055 by omega, show slots ≤ 36376 by omega⟩
  have hf1 : cells + 1 ≤ room_1.cells ∧ slots + 6 ≤ room_1.slots := hc
  obtain ⟨j1, j2, j3, j4, j5, j6, j7, j8, j9, j10⟩ := id hJ
  obtain ⟨hF, hV, hs, -, -, -, -, -⟩ := j10 rfl
  have hz := hV.2.2.2.1
  have hLn := hV.1
  refine lv_aload_n hx hb d_LW_law_339 rfl (lv_at hl 3 rfl) ?_
  refine lv_aload_n hx hb d_LW_law_340 rfl (lv_at hl 4 rfl) ?_
  refine lv_iload hx hb d_LW_law_341 (lv_at hl 0 rfl) ?_
  refine lv_iconst (v := nI (1)) hx hb d_LW_law_343 (by decide) ?_
  refine lv_iadd hx hb d_LW_law_344 ?_
  refine fm_tw (z := nI (i4 + 1)) (nI_add _ _) ?_
  refine va_sld hx hb hX hbl hbA hS (vp_in_nI (by omega) (by omega)) d_LW_law_345 ?_
  refine fm_tw (z := nI (c)) (by rw [nI_clamp (by omega)]; exact hx1) ?_
  refine lv_aload_n hx hb d_LW_law_346 rfl (lv_at hl 4 rfl) ?_
  refine lv_iload hx hb d_LW_law_347 (lv_at hl 0 rfl) ?_
  refine lv_iconst (v := nI (2)) hx hb d_LW_law_349 (by decide) ?_
  refine lv_iadd hx hb d_LW_law_350 ?_
  refine fm_tw (z := nI (i4 + 2)) (nI_add _ _) ?_
  refine va_sld hx hb hX hbl hbA hS (vp_in_nI (by omega) (by omega)) d_LW_law_351 ?_
  refine fm_tw (z := (x2)) (by rw [nI_clamp (by omega)]; exact hx2) ?_
  refine lv_aload_n hx hb d_LW_law_352 rfl (lv_at hl 1 rfl) ?_
  refine fm_csw S (x_LW_ofN2 l hl0 dC dI h bf li ra (nI (rn)) o sp wa sa la s0 cI (fm_RB g) w st ln c x2 ou (hF) (hth) (hc31) (hno)) rfl rfl k_LW_of q_2_196 ⟨Nat.le_of_ble_eq_true rfl, Nat.le_of_ble_eq_true rfl⟩ hP hS (hK.sub [0] rfl) (hTh _ _ hS) hNc [0, 8, 9, 10, 11] rfl rfl hl.1 rfl (Nat.le_of_ble_eq_true rfl) hf1 d_LW_law_353 (fun H hz9 hk9 hP hS => ?_)
  refine lv_istore (lv' := [(5, .int (nI (2))), (4, .int (nI (i4))), (3, .ref ou), (2, .ref mo), (1, .ref h), (0, .ref ab)]) hx hb d_LW_law_356 hl (by decide) rfl (fun ls hl => ?_)
  refine lv_aload_n hx hb d_LW_law_358 rfl (lv_at hl 3 rfl) ?_
  refine lv_aload_n hx hb d_LW_law_359 rfl (lv_at hl 5 rfl) ?_
  refine lv_iload hx hb d_LW_law_360 (lv_at hl 1 rfl) ?_
  refine lv_iconst (v := nI (1)) hx hb d_LW_law_362 (by decide) ?_
  refine lv_iadd hx hb d_LW_law_363 ?_
  refine fm_tw (z := nI (i4 + 1)) (nI_add _ _) ?_
  refine va_sld hx hb hX hbl hbA hS (vp_in_nI (by omega) (by omega)) d_LW_law_364 ?_
  refine fm_tw (z := nI (c)) (by rw [nI_clamp (by omega)]; exact hx1) ?_
  refine lv_aload_n hx hb d_LW_law_365 rfl (lv_at hl 5 rfl) ?_
  refine lv_iload hx hb d_LW_law_366 (lv_at hl 1 rfl) ?_
  refine lv_iconst (v := nI (2)) hx hb d_LW_law_368 (by decide) ?_
  refine lv_iadd hx hb d_LW_law_369 ?_
  refine fm_tw (z := nI (i4 + 2)) (nI_add _ _) ?_
  refine va_sld hx hb hX hbl hbA hS (vp_in_nI (by omega) (by omega)) d_LW_law_370 ?_
  refine fm_tw (z := (x2)) (by rw [nI_clamp (by omega)]; exact hx2) ?_
  refine fm_wvP S (c_MO_ofN l dC dI mo th fa (nI (n)) ga mr (nI (rn)) ka kw (nI (cn)) s0 cB g (nI (c)) x2 (hLn) (Or.inr hno)) rfl rfl k_MO_of q_3_238 ⟨Nat.le_of_ble_eq_true rfl, Nat.le_of_ble_eq_true rfl⟩ hP hD hS (hK.sub [2] rfl) [16, 18] (by decide) (by decide) rfl 0 rfl rfl rfl hl.1 rfl (Nat.le_of_ble_eq_true rfl) hf1 d_LW_law_371 rfl (fun H locs hP hD hS => ?_)
  have hP : va_P (dC, dI) classes [(h, .inr (3, [.ref bf, .ref li, .ref ra, .int (nI (rn)), .ref o, .ref sp, .int (nI (1))])), (bf, .inr (0, [.ref ba, .int (nI (n))])), (ba, .inl (cI, 2048, .inl (b))), (li, .inr (2, [.ref pa, .ref va, .ref na, .int (le), .int (nI (cn))])), (pa, .inl (cI, 1066, .inl (pd))), (va, .inl (cI, 1066, .inl (vl))), (na, .inl (cZ, 1066, .inl (kn))), (ra, .inl (cI, 64, .inl (rw))), (o, .inr (1, [.ref wa, .ref sa, .ref la, .int (nI (fm_HF (fm_RB g) 2)), .int (nI (fm_HF (fm_RB g) 3)), .int (nI (s0)), .int (nI (fm_z s0)), .int (nI (fm_h s0))])), (wa, .inl (cI, 2048, .inl (w))), (sa, .inl (cI, 10, .inl (st))), (la, .inl (cI, 10, .inl (ln))), (sp, .inr (1, [.ref wb, .ref sb, .ref lb, .int (bc2), .int (ec2), .int (sz2), .int (sc2), .int (hv2)])), (wb, .inl (cI, 2048, .inl (w2))), (sb, .inl (cI, 10, .inl (st2))), (lb, .inl (cI, 10, .inl (ln2))), (mo, .inr (4, [.int (nI (2)), .ref fa, .int (nI (n)), .ref ga, .int (nI (1)), .int (nI (s0)), .ref mr, .int (nI (rn)), .ref ka, .ref kw, .int (nI (cn))])), (fa, .inl (cB, 8192, .inl (f))), (ga, .inl (cB, 8192, .inl (g))), (mr, .inl (cB, 64, .inl (rb))), (ka, .inl (cI, 1100, .inl (kd))), (kw, .inl (cI, 1100, .inl (wd))), (ou, .inl (cL, 1, .inr (.inl (ov))))] _ := hP
  have hD : va_D (fm_AA s) [(h, .inr (3, [.ref bf, .ref li, .ref ra, .int (nI (rn)), .ref o, .ref sp, .int (nI (1))])), (bf, .inr (0, [.ref ba, .int (nI (n))])), (ba, .inl (cI, 2048, .inl (b))), (li, .inr (2, [.ref pa, .ref va, .ref na, .int (le), .int (nI (cn))])), (pa, .inl (cI, 1066, .inl (pd))), (va, .inl (cI, 1066, .inl (vl))), (na, .inl (cZ, 1066, .inl (kn))), (ra, .inl (cI, 64, .inl (rw))), (o, .inr (1, [.ref wa, .ref sa, .ref la, .int (nI (fm_HF (fm_RB g) 2)), .int (nI (fm_HF (fm_RB g) 3)), .int (nI (s0)), .int (nI (fm_z s0)), .int (nI (fm_h s0))])), (wa, .inl (cI, 2048, .inl (w))), (sa, .inl (cI, 10, .inl (st))), (la, .inl (cI, 10, .inl (ln))), (sp, .inr (1, [.ref wb, .ref sb, .ref lb, .int (bc2), .int (ec2), .int (sz2), .int (sc2), .int (hv2)])), (wb, .inl (cI, 2048, .inl (w2))), (sb, .inl (cI, 10, .inl (st2))), (lb, .inl (cI, 10, .inl (ln2))), (mo, .inr (4, [.int (nI (2)), .ref fa, .int (nI (n)), .ref ga, .int (nI (1)), .int (nI (s0)), .ref mr, .int (nI (rn)), .ref ka, .ref kw, .int (nI (cn))])), (fa, .inl (cB, 8192, .inl (f))), (ga, .inl (cB, 8192, .inl (g))), (mr, .inl (cB, 64, .inl (rb))), (ka, .inl (cI, 1100, .inl (kd))), (kw, .inl (cI, 1100, .inl (wd))), (ou, .inl (cL, 1, .inr (.inl (ov))))] := hD
  refine lv_istore (lv' := [(6, .int (nI (0))), (5, .int (nI (2))), (4, .int (nI (i4))), (3, .ref ou), (2, .ref mo), (1, .ref h), (0, .ref ab)]) hx hb d_LW_law_374 hl (by decide) rfl (fun ls hl => ?_)
  refine lv_aload_n hx hb d_LW_law_376 rfl (lv_at hl 4 rfl) ?_
  refine fm_cv S (c_MO_thrown l dC dI mo (nI (2)) fa (nI (n)) ga (nI (1)) (nI (s0)) mr (nI (rn)) ka kw (nI (cn)) ) rfl rfl k_MO_thrown q_3_147 ⟨Nat.le_of_ble_eq_true rfl, Nat.le_of_ble_eq_true rfl⟩ (hP.sub [16] rfl) (hK.sub [] rfl) 0 rfl rfl rfl hl.1 rfl (Nat.le_of_ble_eq_true rfl) hf1 d_LW_law_377 ?_
  refine lv_iload hx hb d_LW_law_380 (lv_at hl 1 rfl) ?_
  refine lv_icmp_eq (tgt := 387) hx hb d_LW_law_382 (by decide) (fun c0 => ?_) (fun c0 => ?_)
  · have c_382 : 2 = 2 := (nI_eq (a := 2) (b := 2) (by omega) (by omega)).mp c0
    refine lv_iload hx hb d_LW_law_387 (lv_at hl 1 rfl) ?_
    refine lv_if_ne (tgt := 404) hx hb d_LW_law_389 (by decide) (fun c0 => ?_) (fun c0 => ?_)
    · have c_389 : ¬ (2 = 0) := fun z => c0 ((nI_eq (a := 2) (b := 0) (by omega) (by omega)).mpr z)
      refine lv_goto (tgt := 801) hx hb d_LW_law_404 (by decide) ?_
      refine W.widen (k := cells + 1) (n := slots + 6) (by omega) (by omega) ?_
      exact k801 _ _ _ ⟨bf, ba, li, pa, va, na, ra, o, wa, sa, la, sp, wb, sb, lb, fa, ga, mr, ka, kw, n, b, rn, rw, 1, ((le)), cn, pd, vl, kn, (nI (fm_HF (fm_RB g) 2)), (nI (fm_HF (fm_RB g) 3)), (nI (s0)), (nI (fm_z s0)), (nI (fm_h s0)), w, st, ln, ((bc2)), ((ec2)), ((sz2)), ((sc2)), ((hv2)), w2, st2, ln2, (nI (2)), f, g, s0, rb, kd, wd, ov, hJ, hP, hD, hS⟩ (lv_sub hl [2, 3, 4, 5, 6] rfl)
    · have c_389 : 2 = 0 := (nI_eq (a := 2) (b := 0) (by omega) (by omega)).mp c0
      exact absurd c_389 (by decide)
  · have c_382 : ¬ (2 = 2) := fun z => c0 ((nI_eq (a := 2) (b := 2) (by omega) (by omega)).mpr z)
    exact absurd c_382 (by decide)
set_option maxHeartbeats 4000000 in
set_option maxRecDepth 100000 in
theorem lc_ofY {pg : Program} {l : Launch} {ev : Env} {s : State} {m : MethodId} {below : List Frame} {meth : Method} {cd : Code} {ab L : Nat} {xs : Nat → Int32} {dC : Nat → ClassId} {dI : Nat → Nat → Nat} {cI cZ cB cL : ClassId} {Q : State → Prop} {cells slots i4 h mo ou : Nat} (CX : fm_CX pg l s m meth cd ab L xs dC dI cI cZ cB cL) (hc : cells + 1 ≤ 1055 ∧ slots + 6 ≤ 36376) (hi : i4 + 4 ≤ L) (k801 : fm_K8 pg l ev s m ab below meth cd dC dI cI cZ cB cL Q cells slots h mo ou i4) {bf ba li pa va na ra o wa sa la sp wb sb lb fa ga mr ka kw : Nat} {n : Nat} {b : Nat → Int32} {rn : Nat} {rw : Nat → Int32} {le : Int32} {cn : Nat} {pd : Nat → Int32} {vl : Nat → Int32} {kn : Nat → Int32} {w : Nat → Int32} {st : Nat → Int32} {ln : Nat → Int32} {bc2 : Int32} {ec2 : Int32} {sz2 : Int32} {sc2 : Int32} {hv2 : Int32} {w2 : Nat → Int32} {st2 : Nat → Int32} {ln2 : Nat → Int32} {th : Int32} {f : Nat → Int32} {g : Nat → Int32} {s0 : Nat} {rb : Nat → Int32} {kd : Nat → Int32} {wd : Nat → Int32} {ov : Nat → Int64} (hJ : fm_J n b f rn rw rb 1 cn vl kn kd wd g s0 (nI (fm_HF (fm_RB g) 2)) (nI (fm_HF (fm_RB g) 3)) (nI (s0)) (nI (fm_z s0)) (nI (fm_h s0)) w st ln) {H : Heap} {locs : List Loc} {ls : Array Slot} (hP : va_P (dC, dI) classes [(h, .inr (3, [.ref bf, .ref li, .ref ra, .int (nI (rn)), .ref o, .ref sp, .int (nI (1))])), (bf, .inr (0, [.ref ba, .int (nI (n))])), (ba, .inl (cI, 2048, .inl (b))), (li, .inr (2, [.ref pa, .ref va, .ref na, .int (le), .int (nI (cn))])), (pa, .inl (cI, 1066, .inl (pd))), (va, .inl (cI, 1066, .inl (vl))), (na, .inl (cZ, 1066, .inl (kn))), (ra, .inl (cI, 64, .inl (rw))), (o, .inr (1, [.ref wa, .ref sa, .ref la, .int (nI (fm_HF (fm_RB g) 2)), .int (nI (fm_HF (fm_RB g) 3)), .int (nI (s0)), .int (nI (fm_z s0)), .int (nI (fm_h s0))])), (wa, .inl (cI, 2048, .inl (w))), (sa, .inl (cI, 10, .inl (st))), (la, .inl (cI, 10, .inl (ln))), (sp, .inr (1, [.ref wb, .ref sb, .ref lb, .int (bc2), .int (ec2), .int (sz2), .int (sc2), .int (hv2)])), (wb, .inl (cI, 2048, .inl (w2))), (sb, .inl (cI, 10, .inl (st2))), (lb, .inl (cI, 10, .inl (ln2))), (mo, .inr (4, [.int (th), .ref fa, .int (nI (n)), .ref ga, .int (nI (1)), .int (nI (s0)), .ref mr, .int (nI (rn)), .ref ka, .ref kw, .int (nI (cn))])), (fa, .inl (cB, 8192, .inl (f))), (ga, .inl (cB, 8192, .inl (g))), (mr, .inl (cB, 64, .inl (rb))), (ka, .inl (cI, 1100, .inl (kd))), (kw, .inl (cI, 1100, .inl (wd))), (ou, .inl (cL, 1, .inr (.inl (ov))))] H) (hD : va_D (fm_AA s) [(h, .inr (3, [.ref bf, .ref li, .ref ra, .int (nI (rn)), .ref o, .ref sp, .int (nI (1))])), (bf, .inr (0, [.ref ba, .int (nI (n))])), (ba, .inl (cI, 2048, .inl (b))), (li, .inr (2, [.ref pa, .ref va, .ref na, .int (le), .int (nI (cn))])), (pa, .inl (cI, 1066, .inl (pd))), (va, .inl (cI, 1066, .inl (vl))), (na, .inl (cZ, 1066, .inl (kn))), (ra, .inl (cI, 64, .inl (rw))), (o, .inr (1, [.ref wa, .ref sa, .ref la, .int (nI (fm_HF (fm_RB g) 2)), .int (nI (fm_HF (fm_RB g) 3)), .int (nI (s0)), .int (nI (fm_z s0)), .int (nI (fm_h s0))])), (wa, .inl (cI, 2048, .inl (w))), (sa, .inl (cI, 10, .inl (st))), (la, .inl (cI, 10, .inl (ln))), (sp, .inr (1, [.ref wb, .ref sb, .ref lb, .int (bc2), .int (ec2), .int (sz2), .int (sc2), .int (hv2)])), (wb, .inl (cI, 2048, .inl (w2))), (sb, .inl (cI, 10, .inl (st2))), (lb, .inl (cI, 10, .inl (ln2))), (mo, .inr (4, [.int (th), .ref fa, .int (nI (n)), .ref ga, .int (nI (1)), .int (nI (s0)), .ref mr, .int (nI (rn)), .ref ka, .ref kw, .int (nI (cn))])), (fa, .inl (cB, 8192, .inl (f))), (ga, .inl (cB, 8192, .inl (g))), (mr, .inl (cB, 64, .inl (rb))), (ka, .inl (cI, 1100, .inl (kd))), (kw, .inl (cI, 1100, .inl (wd))), (ou, .inl (cL, 1, .inr (.inl (ov))))]) (hS : va_S (fm_AA s) s.heap H locs) (hl : lv_has ls 7 [(4, .int (nI (i4))), (3, .ref ou), (2, .ref mo), (1, .ref h), (0, .ref ab)]) (c : Nat) (v : Nat) (hx1 : xs (i4 + 1) = nI c) (hx2 : xs (i4 + 2) = nI v) (hth : fm_th (fm_RB g) c = true) (hc31 : c < 2 ^ 31) (hv : v < 6) : W pg l ev room_1 s m #[Value.ref ab] below meth cd H locs cells slots Q (F0 m 339 ls []) := by
  obtain ⟨hl0, C0, hL8, hK, hTh, hNc⟩ := id CX
  obtain ⟨hx, hb, hr, hml, hown, hts, hX, hbl, hlocks, hgv⟩ := id C0
  have hbA : ¬ fm_AA s ab := Nat.not_le.mpr hbl
  have ht : ∀ w ∈ fm_T, w.before #[Value.ref ab] s = true := fun w h => hts w (fm_ofT h).1
  have hown : s.vm.findClass R_LW = some m.cls := hown
  have S : CallFix pg m cd code 7 s #[Value.ref ab] (Cond.initialized R_FM :: fm_T) R_LW := ⟨hx, hb, hml, hown, fun w h => (List.mem_cons.mp h).elim (fun e => by rw [e]; exact ht _ q_1_1) (ht w)⟩
  have hf0 : cells ≤ room_1.cells ∧ slots ≤ room_1.slots := ⟨show cells ≤ 1055 by omega, show slots ≤ 36376 by omega⟩
  have hf1 : cells + 1 ≤ room_1.cells ∧ slots + 6 ≤ room_1.slots := hc
  obtain ⟨j1, j2, j3, j4, j5, j6, j7, j8, j9, j10⟩ := id hJ
  obtain ⟨hF, hV, hs, -, -, -, -, -⟩ := j10 rfl
  have hz := hV.2.2.2.1
  have hLn := hV.1
  refine lv_aload_n hx hb d_LW_law_339 rfl (lv_at hl 3 rfl) ?_
  refine lv_aload_n hx hb d_LW_law_340 rfl (lv_at hl 4 rfl) ?_
  refine lv_iload hx hb d_LW_law_341 (lv_at hl 0 rfl) ?_
  refine lv_iconst (v := nI (1)) hx hb d_LW_law_343 (by decide) ?_
  refine lv_iadd hx hb d_LW_law_344 ?_
  refine fm_tw (z := nI (i4 + 1)) (nI_add _ _) ?_
  refine va_sld hx hb hX hbl hbA hS (vp_in_nI (by omega) (by omega)) d_LW_law_345 ?_
  refine fm_tw (z := nI (c)) (by rw [nI_clamp (by omega)]; exact hx1) ?_
  refine lv_aload_n hx hb d_LW_law_346 rfl (lv_at hl 4 rfl) ?_
  refine lv_iload hx hb d_LW_law_347 (lv_at hl 0 rfl) ?_
  refine lv_iconst (v := nI (2)) hx hb d_LW_law_349 (by decide) ?_
  refine lv_iadd hx hb d_LW_law_350 ?_
  refine fm_tw (z := nI (i4 + 2)) (nI_add _ _) ?_
  refine va_sld hx hb hX hbl hbA hS (vp_in_nI (by omega) (by omega)) d_LW_law_351 ?_
  refine fm_tw (z := nI (v)) (by rw [nI_clamp (by omega)]; exact hx2) ?_
  refine lv_aload_n hx hb d_LW_law_352 rfl (lv_at hl 1 rfl) ?_
  refine fm_wswP S (c_LW_ofY l dC dI h bf li ra (nI (rn)) o sp wa sa la s0 cI (fm_RB g) w st ln c v ou cL ov (hF) (hz) (hs) (hth) (hc31) (hv)) rfl rfl k_LW_of q_2_196 ⟨Nat.le_of_ble_eq_true rfl, Nat.le_of_ble_eq_true rfl⟩ hP hD hS (hK.sub [0, 3] rfl) [0, 8, 9, 10, 11, 22] (by decide) (by decide) rfl rfl hl.1 rfl (Nat.le_of_ble_eq_true rfl) hf0 d_LW_law_353 rfl (fun H locs hP hD hS => ?_)
  have hP : va_P (dC, dI) classes [(h, .inr (3, [.ref bf, .ref li, .ref ra, .int (nI (rn)), .ref o, .ref sp, .int (nI (1))])), (bf, .inr (0, [.ref ba, .int (nI (n))])), (ba, .inl (cI, 2048, .inl (b))), (li, .inr (2, [.ref pa, .ref va, .ref na, .int (le), .int (nI (cn))])), (pa, .inl (cI, 1066, .inl (pd))), (va, .inl (cI, 1066, .inl (vl))), (na, .inl (cZ, 1066, .inl (kn))), (ra, .inl (cI, 64, .inl (rw))), (o, .inr (1, [.ref wa, .ref sa, .ref la, .int (nI (fm_HF (fm_RB g) 2)), .int (nI (fm_HF (fm_RB g) 3)), .int (nI (s0)), .int (nI (fm_z s0)), .int (nI (fm_h s0))])), (wa, .inl (cI, 2048, .inl (w))), (sa, .inl (cI, 10, .inl (st))), (la, .inl (cI, 10, .inl (ln))), (sp, .inr (1, [.ref wb, .ref sb, .ref lb, .int (bc2), .int (ec2), .int (sz2), .int (sc2), .int (hv2)])), (wb, .inl (cI, 2048, .inl (w2))), (sb, .inl (cI, 10, .inl (st2))), (lb, .inl (cI, 10, .inl (ln2))), (mo, .inr (4, [.int (th), .ref fa, .int (nI (n)), .ref ga, .int (nI (1)), .int (nI (s0)), .ref mr, .int (nI (rn)), .ref ka, .ref kw, .int (nI (cn))])), (fa, .inl (cB, 8192, .inl (f))), (ga, .inl (cB, 8192, .inl (g))), (mr, .inl (cB, 64, .inl (rb))), (ka, .inl (cI, 1100, .inl (kd))), (kw, .inl (cI, 1100, .inl (wd))), (ou, .inl (cL, 1, .inr (.inl (vp_updL ov 0 ((fm_of (fm_RB g) s0 c v).toInt64)))))] _ := hP
  have hD : va_D (fm_AA s) [(h, .inr (3, [.ref bf, .ref li, .ref ra, .int (nI (rn)), .ref o, .ref sp, .int (nI (1))])), (bf, .inr (0, [.ref ba, .int (nI (n))])), (ba, .inl (cI, 2048, .inl (b))), (li, .inr (2, [.ref pa, .ref va, .ref na, .int (le), .int (nI (cn))])), (pa, .inl (cI, 1066, .inl (pd))), (va, .inl (cI, 1066, .inl (vl))), (na, .inl (cZ, 1066, .inl (kn))), (ra, .inl (cI, 64, .inl (rw))), (o, .inr (1, [.ref wa, .ref sa, .ref la, .int (nI (fm_HF (fm_RB g) 2)), .int (nI (fm_HF (fm_RB g) 3)), .int (nI (s0)), .int (nI (fm_z s0)), .int (nI (fm_h s0))])), (wa, .inl (cI, 2048, .inl (w))), (sa, .inl (cI, 10, .inl (st))), (la, .inl (cI, 10, .inl (ln))), (sp, .inr (1, [.ref wb, .ref sb, .ref lb, .int (bc2), .int (ec2), .int (sz2), .int (sc2), .int (hv2)])), (wb, .inl (cI, 2048, .inl (w2))), (sb, .inl (cI, 10, .inl (st2))), (lb, .inl (cI, 10, .inl (ln2))), (mo, .inr (4, [.int (th), .ref fa, .int (nI (n)), .ref ga, .int (nI (1)), .int (nI (s0)), .ref mr, .int (nI (rn)), .ref ka, .ref kw, .int (nI (cn))])), (fa, .inl (cB, 8192, .inl (f))), (ga, .inl (cB, 8192, .inl (g))), (mr, .inl (cB, 64, .inl (rb))), (ka, .inl (cI, 1100, .inl (kd))), (kw, .inl (cI, 1100, .inl (wd))), (ou, .inl (cL, 1, .inr (.inl (vp_updL ov 0 ((fm_of (fm_RB g) s0 c v).toInt64)))))] := hD
  refine lv_istore (lv' := [(5, .int (nI (0))), (4, .int (nI (i4))), (3, .ref ou), (2, .ref mo), (1, .ref h), (0, .ref ab)]) hx hb d_LW_law_356 hl (by decide) rfl (fun ls hl => ?_)
  refine lv_aload_n hx hb d_LW_law_358 rfl (lv_at hl 3 rfl) ?_
  refine lv_aload_n hx hb d_LW_law_359 rfl (lv_at hl 5 rfl) ?_
  refine lv_iload hx hb d_LW_law_360 (lv_at hl 1 rfl) ?_
  refine lv_iconst (v := nI (1)) hx hb d_LW_law_362 (by decide) ?_
  refine lv_iadd hx hb d_LW_law_363 ?_
  refine fm_tw (z := nI (i4 + 1)) (nI_add _ _) ?_
  refine va_sld hx hb hX hbl hbA hS (vp_in_nI (by omega) (by omega)) d_LW_law_364 ?_
  refine fm_tw (z := nI (c)) (by rw [nI_clamp (by omega)]; exact hx1) ?_
  refine lv_aload_n hx hb d_LW_law_365 rfl (lv_at hl 5 rfl) ?_
  refine lv_iload hx hb d_LW_law_366 (lv_at hl 1 rfl) ?_
  refine lv_iconst (v := nI (2)) hx hb d_LW_law_368 (by decide) ?_
  refine lv_iadd hx hb d_LW_law_369 ?_
  refine fm_tw (z := nI (i4 + 2)) (nI_add _ _) ?_
  refine va_sld hx hb hX hbl hbA hS (vp_in_nI (by omega) (by omega)) d_LW_law_370 ?_
  refine fm_tw (z := nI (v)) (by rw [nI_clamp (by omega)]; exact hx2) ?_
  refine fm_wvP S (c_MO_ofY l dC dI mo th fa (nI (n)) ga mr (nI (rn)) ka kw (nI (cn)) s0 cB g c v (hLn) (hz) (hs) (hth) (hc31) (hv)) rfl rfl k_MO_of q_3_238 ⟨Nat.le_of_ble_eq_true rfl, Nat.le_of_ble_eq_true rfl⟩ hP hD hS (hK.sub [2] rfl) [16, 18] (by decide) (by decide) rfl 0 rfl rfl rfl hl.1 rfl (Nat.le_of_ble_eq_true rfl) hf0 d_LW_law_371 rfl (fun H locs hP hD hS => ?_)
  have hP : va_P (dC, dI) classes [(h, .inr (3, [.ref bf, .ref li, .ref ra, .int (nI (rn)), .ref o, .ref sp, .int (nI (1))])), (bf, .inr (0, [.ref ba, .int (nI (n))])), (ba, .inl (cI, 2048, .inl (b))), (li, .inr (2, [.ref pa, .ref va, .ref na, .int (le), .int (nI (cn))])), (pa, .inl (cI, 1066, .inl (pd))), (va, .inl (cI, 1066, .inl (vl))), (na, .inl (cZ, 1066, .inl (kn))), (ra, .inl (cI, 64, .inl (rw))), (o, .inr (1, [.ref wa, .ref sa, .ref la, .int (nI (fm_HF (fm_RB g) 2)), .int (nI (fm_HF (fm_RB g) 3)), .int (nI (s0)), .int (nI (fm_z s0)), .int (nI (fm_h s0))])), (wa, .inl (cI, 2048, .inl (w))), (sa, .inl (cI, 10, .inl (st))), (la, .inl (cI, 10, .inl (ln))), (sp, .inr (1, [.ref wb, .ref sb, .ref lb, .int (bc2), .int (ec2), .int (sz2), .int (sc2), .int (hv2)])), (wb, .inl (cI, 2048, .inl (w2))), (sb, .inl (cI, 10, .inl (st2))), (lb, .inl (cI, 10, .inl (ln2))), (mo, .inr (4, [.int (nI (0)), .ref fa, .int (nI (n)), .ref ga, .int (nI (1)), .int (nI (s0)), .ref mr, .int (nI (rn)), .ref ka, .ref kw, .int (nI (cn))])), (fa, .inl (cB, 8192, .inl (f))), (ga, .inl (cB, 8192, .inl (g))), (mr, .inl (cB, 64, .inl (rb))), (ka, .inl (cI, 1100, .inl (kd))), (kw, .inl (cI, 1100, .inl (wd))), (ou, .inl (cL, 1, .inr (.inl (vp_updL ov 0 ((fm_of (fm_RB g) s0 c v).toInt64)))))] _ := hP
  have hD : va_D (fm_AA s) [(h, .inr (3, [.ref bf, .ref li, .ref ra, .int (nI (rn)), .ref o, .ref sp, .int (nI (1))])), (bf, .inr (0, [.ref ba, .int (nI (n))])), (ba, .inl (cI, 2048, .inl (b))), (li, .inr (2, [.ref pa, .ref va, .ref na, .int (le), .int (nI (cn))])), (pa, .inl (cI, 1066, .inl (pd))), (va, .inl (cI, 1066, .inl (vl))), (na, .inl (cZ, 1066, .inl (kn))), (ra, .inl (cI, 64, .inl (rw))), (o, .inr (1, [.ref wa, .ref sa, .ref la, .int (nI (fm_HF (fm_RB g) 2)), .int (nI (fm_HF (fm_RB g) 3)), .int (nI (s0)), .int (nI (fm_z s0)), .int (nI (fm_h s0))])), (wa, .inl (cI, 2048, .inl (w))), (sa, .inl (cI, 10, .inl (st))), (la, .inl (cI, 10, .inl (ln))), (sp, .inr (1, [.ref wb, .ref sb, .ref lb, .int (bc2), .int (ec2), .int (sz2), .int (sc2), .int (hv2)])), (wb, .inl (cI, 2048, .inl (w2))), (sb, .inl (cI, 10, .inl (st2))), (lb, .inl (cI, 10, .inl (ln2))), (mo, .inr (4, [.int (nI (0)), .ref fa, .int (nI (n)), .ref ga, .int (nI (1)), .int (nI (s0)), .ref mr, .int (nI (rn)), .ref ka, .ref kw, .int (nI (cn))])), (fa, .inl (cB, 8192, .inl (f))), (ga, .inl (cB, 8192, .inl (g))), (mr, .inl (cB, 64, .inl (rb))), (ka, .inl (cI, 1100, .inl (kd))), (kw, .inl (cI, 1100, .inl (wd))), (ou, .inl (cL, 1, .inr (.inl (vp_updL ov 0 ((fm_of (fm_RB g) s0 c v).toInt64)))))] := hD
  refine lv_istore (lv' := [(6, .int (fm_of (fm_RB g) s0 c v)), (5, .int (nI (0))), (4, .int (nI (i4))), (3, .ref ou), (2, .ref mo), (1, .ref h), (0, .ref ab)]) hx hb d_LW_law_374 hl (by decide) rfl (fun ls hl => ?_)
  refine lv_aload_n hx hb d_LW_law_376 rfl (lv_at hl 4 rfl) ?_
  refine fm_cv S (c_MO_thrown l dC dI mo (nI (0)) fa (nI (n)) ga (nI (1)) (nI (s0)) mr (nI (rn)) ka kw (nI (cn)) ) rfl rfl k_MO_thrown q_3_147 ⟨Nat.le_of_ble_eq_true rfl, Nat.le_of_ble_eq_true rfl⟩ (hP.sub [16] rfl) (hK.sub [] rfl) 0 rfl rfl rfl hl.1 rfl (Nat.le_of_ble_eq_true rfl) hf0 d_LW_law_377 ?_
  refine lv_iload hx hb d_LW_law_380 (lv_at hl 1 rfl) ?_
  refine lv_icmp_eq (tgt := 387) hx hb d_LW_law_382 (by decide) (fun c0 => ?_) (fun c0 => ?_)
  · have c_382 : 0 = 0 := (nI_eq (a := 0) (b := 0) (by omega) (by omega)).mp c0
    refine lv_iload hx hb d_LW_law_387 (lv_at hl 1 rfl) ?_
    refine lv_if_ne (tgt := 404) hx hb d_LW_law_389 (by decide) (fun c0 => ?_) (fun c0 => ?_)
    · have c_389 : ¬ (0 = 0) := fun z => c0 ((nI_eq (a := 0) (b := 0) (by omega) (by omega)).mpr z)
      exact absurd c_389 (by decide)
    · have c_389 : 0 = 0 := (nI_eq (a := 0) (b := 0) (by omega) (by omega)).mp c0
      refine lv_aload_n hx hb d_LW_law_392 rfl (lv_at hl 3 rfl) ?_
      refine lv_iconst (v := nI (0)) hx hb d_LW_law_393 (by decide) ?_
      refine va_lald hx hb hK hP 22 3 rfl rfl (vp_in_nI (by decide) (by decide)) d_LW_law_394 ?_
      refine fm_twl (z := (fm_of (fm_RB g) s0 c v).toInt64) (by rw [nI_clamp (by decide)]; exact fm_updL0 _ _) ?_
      refine lv_iload hx hb d_LW_law_395 (lv_at hl 0 rfl) ?_
      refine lv_i2l (v := ((fm_of (fm_RB g) s0 c v)).toInt64) hx hb d_LW_law_397 rfl ?_
      refine W.lcmp hx hb d_LW_law_398 ?_
      refine lv_if_eq (tgt := 404) hx hb d_LW_law_399 (by decide) (fun c0 => ?_) (fun c0 => ?_)
      · have c_399 := c0
        refine lv_goto (tgt := 801) hx hb d_LW_law_404 (by decide) ?_
        refine W.widen (k := cells + 1) (n := slots + 6) (by omega) (by omega) ?_
        exact k801 _ _ _ ⟨bf, ba, li, pa, va, na, ra, o, wa, sa, la, sp, wb, sb, lb, fa, ga, mr, ka, kw, n, b, rn, rw, 1, ((le)), cn, pd, vl, kn, (nI (fm_HF (fm_RB g) 2)), (nI (fm_HF (fm_RB g) 3)), (nI (s0)), (nI (fm_z s0)), (nI (fm_h s0)), w, st, ln, ((bc2)), ((ec2)), ((sz2)), ((sc2)), ((hv2)), w2, st2, ln2, (nI (0)), f, g, s0, rb, kd, wd, (vp_updL ov 0 ((fm_of (fm_RB g) s0 c v).toInt64)), hJ, hP, hD, hS⟩ (lv_sub hl [2, 3, 4, 5, 6] rfl)
      · have c_399 := c0
        exact absurd (fm_lcmp0 _) c_399
  · have c_382 : ¬ (0 = 0) := fun z => c0 ((nI_eq (a := 0) (b := 0) (by omega) (by omega)).mpr z)
    exact absurd c_382 (by decide)
set_option maxHeartbeats 4000000 in
set_option maxRecDepth 100000 in
theorem lc_partN1 {pg : Program} {l : Launch} {ev : Env} {s : State} {m : MethodId} {below : List Frame} {meth : Method} {cd : Code} {ab L : Nat} {xs : Nat → Int32} {dC : Nat → ClassId} {dI : Nat → Nat → Nat} {cI cZ cB cL : ClassId} {Q : State → Prop} {cells slots i4 h mo ou : Nat} (CX : fm_CX pg l s m meth cd ab L xs dC dI cI cZ cB cL) (hc : cells + 1 ≤ 1055 ∧ slots + 6 ≤ 36376) (hi : i4 + 4 ≤ L) (k801 : fm_K8 pg l ev s m ab below meth cd dC dI cI cZ cB cL Q cells slots h mo ou i4) {bf ba li pa va na ra o wa sa la sp wb sb lb fa ga mr ka kw : Nat} {n : Nat} {b : Nat → Int32} {rn : Nat} {rw : Nat → Int32} {le : Int32} {cn : Nat} {pd : Nat → Int32} {vl : Nat → Int32} {kn : Nat → Int32} {w : Nat → Int32} {st : Nat → Int32} {ln : Nat → Int32} {bc2 : Int32} {ec2 : Int32} {sz2 : Int32} {sc2 : Int32} {hv2 : Int32} {w2 : Nat → Int32} {st2 : Nat → Int32} {ln2 : Nat → Int32} {th : Int32} {f : Nat → Int32} {g : Nat → Int32} {s0 : Nat} {rb : Nat → Int32} {kd : Nat → Int32} {wd : Nat → Int32} {ov : Nat → Int64} (hJ : fm_J n b f rn rw rb 1 cn vl kn kd wd g s0 (nI (fm_HF (fm_RB g) 2)) (nI (fm_HF (fm_RB g) 3)) (nI (s0)) (nI (fm_z s0)) (nI (fm_h s0)) w st ln) {H : Heap} {locs : List Loc} {ls : Array Slot} (hP : va_P (dC, dI) classes [(h, .inr (3, [.ref bf, .ref li, .ref ra, .int (nI (rn)), .ref o, .ref sp, .int (nI (1))])), (bf, .inr (0, [.ref ba, .int (nI (n))])), (ba, .inl (cI, 2048, .inl (b))), (li, .inr (2, [.ref pa, .ref va, .ref na, .int (le), .int (nI (cn))])), (pa, .inl (cI, 1066, .inl (pd))), (va, .inl (cI, 1066, .inl (vl))), (na, .inl (cZ, 1066, .inl (kn))), (ra, .inl (cI, 64, .inl (rw))), (o, .inr (1, [.ref wa, .ref sa, .ref la, .int (nI (fm_HF (fm_RB g) 2)), .int (nI (fm_HF (fm_RB g) 3)), .int (nI (s0)), .int (nI (fm_z s0)), .int (nI (fm_h s0))])), (wa, .inl (cI, 2048, .inl (w))), (sa, .inl (cI, 10, .inl (st))), (la, .inl (cI, 10, .inl (ln))), (sp, .inr (1, [.ref wb, .ref sb, .ref lb, .int (bc2), .int (ec2), .int (sz2), .int (sc2), .int (hv2)])), (wb, .inl (cI, 2048, .inl (w2))), (sb, .inl (cI, 10, .inl (st2))), (lb, .inl (cI, 10, .inl (ln2))), (mo, .inr (4, [.int (th), .ref fa, .int (nI (n)), .ref ga, .int (nI (1)), .int (nI (s0)), .ref mr, .int (nI (rn)), .ref ka, .ref kw, .int (nI (cn))])), (fa, .inl (cB, 8192, .inl (f))), (ga, .inl (cB, 8192, .inl (g))), (mr, .inl (cB, 64, .inl (rb))), (ka, .inl (cI, 1100, .inl (kd))), (kw, .inl (cI, 1100, .inl (wd))), (ou, .inl (cL, 1, .inr (.inl (ov))))] H) (hD : va_D (fm_AA s) [(h, .inr (3, [.ref bf, .ref li, .ref ra, .int (nI (rn)), .ref o, .ref sp, .int (nI (1))])), (bf, .inr (0, [.ref ba, .int (nI (n))])), (ba, .inl (cI, 2048, .inl (b))), (li, .inr (2, [.ref pa, .ref va, .ref na, .int (le), .int (nI (cn))])), (pa, .inl (cI, 1066, .inl (pd))), (va, .inl (cI, 1066, .inl (vl))), (na, .inl (cZ, 1066, .inl (kn))), (ra, .inl (cI, 64, .inl (rw))), (o, .inr (1, [.ref wa, .ref sa, .ref la, .int (nI (fm_HF (fm_RB g) 2)), .int (nI (fm_HF (fm_RB g) 3)), .int (nI (s0)), .int (nI (fm_z s0)), .int (nI (fm_h s0))])), (wa, .inl (cI, 2048, .inl (w))), (sa, .inl (cI, 10, .inl (st))), (la, .inl (cI, 10, .inl (ln))), (sp, .inr (1, [.ref wb, .ref sb, .ref lb, .int (bc2), .int (ec2), .int (sz2), .int (sc2), .int (hv2)])), (wb, .inl (cI, 2048, .inl (w2))), (sb, .inl (cI, 10, .inl (st2))), (lb, .inl (cI, 10, .inl (ln2))), (mo, .inr (4, [.int (th), .ref fa, .int (nI (n)), .ref ga, .int (nI (1)), .int (nI (s0)), .ref mr, .int (nI (rn)), .ref ka, .ref kw, .int (nI (cn))])), (fa, .inl (cB, 8192, .inl (f))), (ga, .inl (cB, 8192, .inl (g))), (mr, .inl (cB, 64, .inl (rb))), (ka, .inl (cI, 1100, .inl (kd))), (kw, .inl (cI, 1100, .inl (wd))), (ou, .inl (cL, 1, .inr (.inl (ov))))]) (hS : va_S (fm_AA s) s.heap H locs) (hl : lv_has ls 7 [(4, .int (nI (i4))), (3, .ref ou), (2, .ref mo), (1, .ref h), (0, .ref ab)]) (x1 : Int32) (x2 : Int32) (hx1 : xs (i4 + 1) = x1) (hx2 : xs (i4 + 2) = x2) (hno : fm_thI (fm_RB g) x1 = false) : W pg l ev room_1 s m #[Value.ref ab] below meth cd H locs cells slots Q (F0 m 407 ls []) := by
  obtain ⟨hl0, C0, hL8, hK, hTh, hNc⟩ := id CX
  obtain ⟨hx, hb, hr, hml, hown, hts, hX, hbl, hlocks, hgv⟩ := id C0
  have hbA : ¬ fm_AA s ab := Nat.not_le.mpr hbl
  have ht : ∀ w ∈ fm_T, w.before #[Value.ref ab] s = true := fun w h => hts w (fm_ofT h).1
  have hown : s.vm.findClass R_LW = some m.cls := hown
  have S : CallFix pg m cd code 7 s #[Value.ref ab] (Cond.initialized R_FM :: fm_T) R_LW := ⟨hx, hb, hml, hown, fun w h => (List.mem_cons.mp h).elim (fun e => by rw [e]; exact ht _ q_1_1) (ht w)⟩
  have hf0 : cells ≤ room_1.cells ∧ slots ≤ room_1.slots := ⟨show cells ≤ 1055 by omega, show slots ≤ 36376 by omega⟩
  have hf1 : cells + 1 ≤ room_1.cells ∧ slots + 6 ≤ room_1.slots := hc
  obtain ⟨j1, j2, j3, j4, j5, j6, j7, j8, j9, j10⟩ := id hJ
  obtain ⟨hF, hV, hs, -, -, -, -, -⟩ := j10 rfl
  have hz := hV.2.2.2.1
  have hLn := hV.1
  refine lv_aload_n hx hb d_LW_law_407 rfl (lv_at hl 3 rfl) ?_
  refine lv_aload_n hx hb d_LW_law_408 rfl (lv_at hl 4 rfl) ?_
  refine lv_iload hx hb d_LW_law_409 (lv_at hl 0 rfl) ?_
  refine lv_iconst (v := nI (1)) hx hb d_LW_law_411 (by decide) ?_
  refine lv_iadd hx hb d_LW_law_412 ?_
  refine fm_tw (z := nI (i4 + 1)) (nI_add _ _) ?_
  refine va_sld hx hb hX hbl hbA hS (vp_in_nI (by omega) (by omega)) d_LW_law_413 ?_
  refine fm_tw (z := (x1)) (by rw [nI_clamp (by omega)]; exact hx1) ?_
  refine lv_aload_n hx hb d_LW_law_414 rfl (lv_at hl 4 rfl) ?_
  refine lv_iload hx hb d_LW_law_415 (lv_at hl 0 rfl) ?_
  refine lv_iconst (v := nI (2)) hx hb d_LW_law_417 (by decide) ?_
  refine lv_iadd hx hb d_LW_law_418 ?_
  refine fm_tw (z := nI (i4 + 2)) (nI_add _ _) ?_
  refine va_sld hx hb hX hbl hbA hS (vp_in_nI (by omega) (by omega)) d_LW_law_419 ?_
  refine fm_tw (z := (x2)) (by rw [nI_clamp (by omega)]; exact hx2) ?_
  refine lv_aload_n hx hb d_LW_law_420 rfl (lv_at hl 1 rfl) ?_
  refine fm_csw S (x_LW_partN1 l hl0 dC dI h bf li ra (nI (rn)) o sp wa sa la s0 cI (fm_RB g) w st ln x1 x2 ou (hF) (hno)) rfl rfl k_LW_part q_2_227 ⟨Nat.le_of_ble_eq_true rfl, Nat.le_of_ble_eq_true rfl⟩ hP hS (hK.sub [0] rfl) (hTh _ _ hS) hNc [0, 8, 9, 10, 11] rfl rfl hl.1 rfl (Nat.le_of_ble_eq_true rfl) hf1 d_LW_law_421 (fun H hz9 hk9 hP hS => ?_)
  refine lv_istore (lv' := [(5, .int (nI (2))), (4, .int (nI (i4))), (3, .ref ou), (2, .ref mo), (1, .ref h), (0, .ref ab)]) hx hb d_LW_law_424 hl (by decide) rfl (fun ls hl => ?_)
  refine lv_aload_n hx hb d_LW_law_426 rfl (lv_at hl 3 rfl) ?_
  refine lv_aload_n hx hb d_LW_law_427 rfl (lv_at hl 5 rfl) ?_
  refine lv_iload hx hb d_LW_law_428 (lv_at hl 1 rfl) ?_
  refine lv_iconst (v := nI (1)) hx hb d_LW_law_430 (by decide) ?_
  refine lv_iadd hx hb d_LW_law_431 ?_
  refine fm_tw (z := nI (i4 + 1)) (nI_add _ _) ?_
  refine va_sld hx hb hX hbl hbA hS (vp_in_nI (by omega) (by omega)) d_LW_law_432 ?_
  refine fm_tw (z := (x1)) (by rw [nI_clamp (by omega)]; exact hx1) ?_
  refine lv_aload_n hx hb d_LW_law_433 rfl (lv_at hl 5 rfl) ?_
  refine lv_iload hx hb d_LW_law_434 (lv_at hl 1 rfl) ?_
  refine lv_iconst (v := nI (2)) hx hb d_LW_law_436 (by decide) ?_
  refine lv_iadd hx hb d_LW_law_437 ?_
  refine fm_tw (z := nI (i4 + 2)) (nI_add _ _) ?_
  refine va_sld hx hb hX hbl hbA hS (vp_in_nI (by omega) (by omega)) d_LW_law_438 ?_
  refine fm_tw (z := (x2)) (by rw [nI_clamp (by omega)]; exact hx2) ?_
  refine fm_wvP S (c_MO_partN l dC dI mo th fa (nI (n)) ga mr (nI (rn)) ka kw (nI (cn)) s0 cB g x1 x2 (hLn) (fun c9 e9 h9 => (fm_noth hLn hno e9 h9).elim)) rfl rfl k_MO_part q_4_14 ⟨Nat.le_of_ble_eq_true rfl, Nat.le_of_ble_eq_true rfl⟩ hP hD hS (hK.sub [2] rfl) [16, 18] (by decide) (by decide) rfl 0 rfl rfl rfl hl.1 rfl (Nat.le_of_ble_eq_true rfl) hf1 d_LW_law_439 rfl (fun H locs hP hD hS => ?_)
  have hP : va_P (dC, dI) classes [(h, .inr (3, [.ref bf, .ref li, .ref ra, .int (nI (rn)), .ref o, .ref sp, .int (nI (1))])), (bf, .inr (0, [.ref ba, .int (nI (n))])), (ba, .inl (cI, 2048, .inl (b))), (li, .inr (2, [.ref pa, .ref va, .ref na, .int (le), .int (nI (cn))])), (pa, .inl (cI, 1066, .inl (pd))), (va, .inl (cI, 1066, .inl (vl))), (na, .inl (cZ, 1066, .inl (kn))), (ra, .inl (cI, 64, .inl (rw))), (o, .inr (1, [.ref wa, .ref sa, .ref la, .int (nI (fm_HF (fm_RB g) 2)), .int (nI (fm_HF (fm_RB g) 3)), .int (nI (s0)), .int (nI (fm_z s0)), .int (nI (fm_h s0))])), (wa, .inl (cI, 2048, .inl (w))), (sa, .inl (cI, 10, .inl (st))), (la, .inl (cI, 10, .inl (ln))), (sp, .inr (1, [.ref wb, .ref sb, .ref lb, .int (bc2), .int (ec2), .int (sz2), .int (sc2), .int (hv2)])), (wb, .inl (cI, 2048, .inl (w2))), (sb, .inl (cI, 10, .inl (st2))), (lb, .inl (cI, 10, .inl (ln2))), (mo, .inr (4, [.int (nI (2)), .ref fa, .int (nI (n)), .ref ga, .int (nI (1)), .int (nI (s0)), .ref mr, .int (nI (rn)), .ref ka, .ref kw, .int (nI (cn))])), (fa, .inl (cB, 8192, .inl (f))), (ga, .inl (cB, 8192, .inl (g))), (mr, .inl (cB, 64, .inl (rb))), (ka, .inl (cI, 1100, .inl (kd))), (kw, .inl (cI, 1100, .inl (wd))), (ou, .inl (cL, 1, .inr (.inl (ov))))] _ := hP
  have hD : va_D (fm_AA s) [(h, .inr (3, [.ref bf, .ref li, .ref ra, .int (nI (rn)), .ref o, .ref sp, .int (nI (1))])), (bf, .inr (0, [.ref ba, .int (nI (n))])), (ba, .inl (cI, 2048, .inl (b))), (li, .inr (2, [.ref pa, .ref va, .ref na, .int (le), .int (nI (cn))])), (pa, .inl (cI, 1066, .inl (pd))), (va, .inl (cI, 1066, .inl (vl))), (na, .inl (cZ, 1066, .inl (kn))), (ra, .inl (cI, 64, .inl (rw))), (o, .inr (1, [.ref wa, .ref sa, .ref la, .int (nI (fm_HF (fm_RB g) 2)), .int (nI (fm_HF (fm_RB g) 3)), .int (nI (s0)), .int (nI (fm_z s0)), .int (nI (fm_h s0))])), (wa, .inl (cI, 2048, .inl (w))), (sa, .inl (cI, 10, .inl (st))), (la, .inl (cI, 10, .inl (ln))), (sp, .inr (1, [.ref wb, .ref sb, .ref lb, .int (bc2), .int (ec2), .int (sz2), .int (sc2), .int (hv2)])), (wb, .inl (cI, 2048, .inl (w2))), (sb, .inl (cI, 10, .inl (st2))), (lb, .inl (cI, 10, .inl (ln2))), (mo, .inr (4, [.int (nI (2)), .ref fa, .int (nI (n)), .ref ga, .int (nI (1)), .int (nI (s0)), .ref mr, .int (nI (rn)), .ref ka, .ref kw, .int (nI (cn))])), (fa, .inl (cB, 8192, .inl (f))), (ga, .inl (cB, 8192, .inl (g))), (mr, .inl (cB, 64, .inl (rb))), (ka, .inl (cI, 1100, .inl (kd))), (kw, .inl (cI, 1100, .inl (wd))), (ou, .inl (cL, 1, .inr (.inl (ov))))] := hD
  refine lv_istore (lv' := [(6, .int (nI (0))), (5, .int (nI (2))), (4, .int (nI (i4))), (3, .ref ou), (2, .ref mo), (1, .ref h), (0, .ref ab)]) hx hb d_LW_law_442 hl (by decide) rfl (fun ls hl => ?_)
  refine lv_aload_n hx hb d_LW_law_444 rfl (lv_at hl 4 rfl) ?_
  refine fm_cv S (c_MO_thrown l dC dI mo (nI (2)) fa (nI (n)) ga (nI (1)) (nI (s0)) mr (nI (rn)) ka kw (nI (cn)) ) rfl rfl k_MO_thrown q_3_147 ⟨Nat.le_of_ble_eq_true rfl, Nat.le_of_ble_eq_true rfl⟩ (hP.sub [16] rfl) (hK.sub [] rfl) 0 rfl rfl rfl hl.1 rfl (Nat.le_of_ble_eq_true rfl) hf1 d_LW_law_445 ?_
  refine lv_iload hx hb d_LW_law_448 (lv_at hl 1 rfl) ?_
  refine lv_icmp_eq (tgt := 455) hx hb d_LW_law_450 (by decide) (fun c0 => ?_) (fun c0 => ?_)
  · have c_450 : 2 = 2 := (nI_eq (a := 2) (b := 2) (by omega) (by omega)).mp c0
    refine lv_iload hx hb d_LW_law_455 (lv_at hl 1 rfl) ?_
    refine lv_if_ne (tgt := 472) hx hb d_LW_law_457 (by decide) (fun c0 => ?_) (fun c0 => ?_)
    · have c_457 : ¬ (2 = 0) := fun z => c0 ((nI_eq (a := 2) (b := 0) (by omega) (by omega)).mpr z)
      refine lv_goto (tgt := 801) hx hb d_LW_law_472 (by decide) ?_
      refine W.widen (k := cells + 1) (n := slots + 6) (by omega) (by omega) ?_
      exact k801 _ _ _ ⟨bf, ba, li, pa, va, na, ra, o, wa, sa, la, sp, wb, sb, lb, fa, ga, mr, ka, kw, n, b, rn, rw, 1, ((le)), cn, pd, vl, kn, (nI (fm_HF (fm_RB g) 2)), (nI (fm_HF (fm_RB g) 3)), (nI (s0)), (nI (fm_z s0)), (nI (fm_h s0)), w, st, ln, ((bc2)), ((ec2)), ((sz2)), ((sc2)), ((hv2)), w2, st2, ln2, (nI (2)), f, g, s0, rb, kd, wd, ov, hJ, hP, hD, hS⟩ (lv_sub hl [2, 3, 4, 5, 6] rfl)
    · have c_457 : 2 = 0 := (nI_eq (a := 2) (b := 0) (by omega) (by omega)).mp c0
      exact absurd c_457 (by decide)
  · have c_450 : ¬ (2 = 2) := fun z => c0 ((nI_eq (a := 2) (b := 2) (by omega) (by omega)).mpr z)
    exact absurd c_450 (by decide)
set_option maxHeartbeats 4000000 in
set_option maxRecDepth 100000 in
theorem lc_partN2 {pg : Program} {l : Launch} {ev : Env} {s : State} {m : MethodId} {below : List Frame} {meth : Method} {cd : Code} {ab L : Nat} {xs : Nat → Int32} {dC : Nat → ClassId} {dI : Nat → Nat → Nat} {cI cZ cB cL : ClassId} {Q : State → Prop} {cells slots i4 h mo ou : Nat} (CX : fm_CX pg l s m meth cd ab L xs dC dI cI cZ cB cL) (hc : cells + 1 ≤ 1055 ∧ slots + 6 ≤ 36376) (hi : i4 + 4 ≤ L) (k801 : fm_K8 pg l ev s m ab below meth cd dC dI cI cZ cB cL Q cells slots h mo ou i4) {bf ba li pa va na ra o wa sa la sp wb sb lb fa ga mr ka kw : Nat} {n : Nat} {b : Nat → Int32} {rn : Nat} {rw : Nat → Int32} {le : Int32} {cn : Nat} {pd : Nat → Int32} {vl : Nat → Int32} {kn : Nat → Int32} {w : Nat → Int32} {st : Nat → Int32} {ln : Nat → Int32} {bc2 : Int32} {ec2 : Int32} {sz2 : Int32} {sc2 : Int32} {hv2 : Int32} {w2 : Nat → Int32} {st2 : Nat → Int32} {ln2 : Nat → Int32} {th : Int32} {f : Nat → Int32} {g : Nat → Int32} {s0 : Nat} {rb : Nat → Int32} {kd : Nat → Int32} {wd : Nat → Int32} {ov : Nat → Int64} (hJ : fm_J n b f rn rw rb 1 cn vl kn kd wd g s0 (nI (fm_HF (fm_RB g) 2)) (nI (fm_HF (fm_RB g) 3)) (nI (s0)) (nI (fm_z s0)) (nI (fm_h s0)) w st ln) {H : Heap} {locs : List Loc} {ls : Array Slot} (hP : va_P (dC, dI) classes [(h, .inr (3, [.ref bf, .ref li, .ref ra, .int (nI (rn)), .ref o, .ref sp, .int (nI (1))])), (bf, .inr (0, [.ref ba, .int (nI (n))])), (ba, .inl (cI, 2048, .inl (b))), (li, .inr (2, [.ref pa, .ref va, .ref na, .int (le), .int (nI (cn))])), (pa, .inl (cI, 1066, .inl (pd))), (va, .inl (cI, 1066, .inl (vl))), (na, .inl (cZ, 1066, .inl (kn))), (ra, .inl (cI, 64, .inl (rw))), (o, .inr (1, [.ref wa, .ref sa, .ref la, .int (nI (fm_HF (fm_RB g) 2)), .int (nI (fm_HF (fm_RB g) 3)), .int (nI (s0)), .int (nI (fm_z s0)), .int (nI (fm_h s0))])), (wa, .inl (cI, 2048, .inl (w))), (sa, .inl (cI, 10, .inl (st))), (la, .inl (cI, 10, .inl (ln))), (sp, .inr (1, [.ref wb, .ref sb, .ref lb, .int (bc2), .int (ec2), .int (sz2), .int (sc2), .int (hv2)])), (wb, .inl (cI, 2048, .inl (w2))), (sb, .inl (cI, 10, .inl (st2))), (lb, .inl (cI, 10, .inl (ln2))), (mo, .inr (4, [.int (th), .ref fa, .int (nI (n)), .ref ga, .int (nI (1)), .int (nI (s0)), .ref mr, .int (nI (rn)), .ref ka, .ref kw, .int (nI (cn))])), (fa, .inl (cB, 8192, .inl (f))), (ga, .inl (cB, 8192, .inl (g))), (mr, .inl (cB, 64, .inl (rb))), (ka, .inl (cI, 1100, .inl (kd))), (kw, .inl (cI, 1100, .inl (wd))), (ou, .inl (cL, 1, .inr (.inl (ov))))] H) (hD : va_D (fm_AA s) [(h, .inr (3, [.ref bf, .ref li, .ref ra, .int (nI (rn)), .ref o, .ref sp, .int (nI (1))])), (bf, .inr (0, [.ref ba, .int (nI (n))])), (ba, .inl (cI, 2048, .inl (b))), (li, .inr (2, [.ref pa, .ref va, .ref na, .int (le), .int (nI (cn))])), (pa, .inl (cI, 1066, .inl (pd))), (va, .inl (cI, 1066, .inl (vl))), (na, .inl (cZ, 1066, .inl (kn))), (ra, .inl (cI, 64, .inl (rw))), (o, .inr (1, [.ref wa, .ref sa, .ref la, .int (nI (fm_HF (fm_RB g) 2)), .int (nI (fm_HF (fm_RB g) 3)), .int (nI (s0)), .int (nI (fm_z s0)), .int (nI (fm_h s0))])), (wa, .inl (cI, 2048, .inl (w))), (sa, .inl (cI, 10, .inl (st))), (la, .inl (cI, 10, .inl (ln))), (sp, .inr (1, [.ref wb, .ref sb, .ref lb, .int (bc2), .int (ec2), .int (sz2), .int (sc2), .int (hv2)])), (wb, .inl (cI, 2048, .inl (w2))), (sb, .inl (cI, 10, .inl (st2))), (lb, .inl (cI, 10, .inl (ln2))), (mo, .inr (4, [.int (th), .ref fa, .int (nI (n)), .ref ga, .int (nI (1)), .int (nI (s0)), .ref mr, .int (nI (rn)), .ref ka, .ref kw, .int (nI (cn))])), (fa, .inl (cB, 8192, .inl (f))), (ga, .inl (cB, 8192, .inl (g))), (mr, .inl (cB, 64, .inl (rb))), (ka, .inl (cI, 1100, .inl (kd))), (kw, .inl (cI, 1100, .inl (wd))), (ou, .inl (cL, 1, .inr (.inl (ov))))]) (hS : va_S (fm_AA s) s.heap H locs) (hl : lv_has ls 7 [(4, .int (nI (i4))), (3, .ref ou), (2, .ref mo), (1, .ref h), (0, .ref ab)]) (c : Nat) (x2 : Int32) (hx1 : xs (i4 + 1) = nI c) (hx2 : xs (i4 + 2) = x2) (hth : fm_th (fm_RB g) c = true) (hc31 : c < 2 ^ 31) (hno : fm_tag (fm_RB g) c ≠ 3 ∨ x2 < 0 ∨ nI 3 < x2) : W pg l ev room_1 s m #[Value.ref ab] below meth cd H locs cells slots Q (F0 m 407 ls []) := by
  obtain ⟨hl0, C0, hL8, hK, hTh, hNc⟩ := id CX
  obtain ⟨hx, hb, hr, hml, hown, hts, hX, hbl, hlocks, hgv⟩ := id C0
  have hbA : ¬ fm_AA s ab := Nat.not_le.mpr hbl
  have ht : ∀ w ∈ fm_T, w.before #[Value.ref ab] s = true := fun w h => hts w (fm_ofT h).1
  have hown : s.vm.findClass R_LW = some m.cls := hown
  have S : CallFix pg m cd code 7 s #[Value.ref ab] (Cond.initialized R_FM :: fm_T) R_LW := ⟨hx, hb, hml, hown, fun w h => (List.mem_cons.mp h).elim (fun e => by rw [e]; exact ht _ q_1_1) (ht w)⟩
  have hf0 : cells ≤ room_1.cells ∧ slots ≤ room_1.slots := ⟨show cells ≤ 1055 by omega, show slots ≤ 36376 by omega⟩
  have hf1 : cells + 1 ≤ room_1.cells ∧ slots + 6 ≤ room_1.slots := hc
  obtain ⟨j1, j2, j3, j4, j5, j6, j7, j8, j9, j10⟩ := id hJ
  obtain ⟨hF, hV, hs, -, -, -, -, -⟩ := j10 rfl
  have hz := hV.2.2.2.1
  have hLn := hV.1
  refine lv_aload_n hx hb d_LW_law_407 rfl (lv_at hl 3 rfl) ?_
  refine lv_aload_n hx hb d_LW_law_408 rfl (lv_at hl 4 rfl) ?_
  refine lv_iload hx hb d_LW_law_409 (lv_at hl 0 rfl) ?_
  refine lv_iconst (v := nI (1)) hx hb d_LW_law_411 (by decide) ?_
  refine lv_iadd hx hb d_LW_law_412 ?_
  refine fm_tw (z := nI (i4 + 1)) (nI_add _ _) ?_
  refine va_sld hx hb hX hbl hbA hS (vp_in_nI (by omega) (by omega)) d_LW_law_413 ?_
  refine fm_tw (z := nI (c)) (by rw [nI_clamp (by omega)]; exact hx1) ?_
  refine lv_aload_n hx hb d_LW_law_414 rfl (lv_at hl 4 rfl) ?_
  refine lv_iload hx hb d_LW_law_415 (lv_at hl 0 rfl) ?_
  refine lv_iconst (v := nI (2)) hx hb d_LW_law_417 (by decide) ?_
  refine lv_iadd hx hb d_LW_law_418 ?_
  refine fm_tw (z := nI (i4 + 2)) (nI_add _ _) ?_
  refine va_sld hx hb hX hbl hbA hS (vp_in_nI (by omega) (by omega)) d_LW_law_419 ?_
  refine fm_tw (z := (x2)) (by rw [nI_clamp (by omega)]; exact hx2) ?_
  refine lv_aload_n hx hb d_LW_law_420 rfl (lv_at hl 1 rfl) ?_
  refine fm_csw S (x_LW_partN2 l hl0 dC dI h bf li ra (nI (rn)) o sp wa sa la s0 cI (fm_RB g) w st ln c x2 ou (hF) (hth) (hc31) (hno)) rfl rfl k_LW_part q_2_227 ⟨Nat.le_of_ble_eq_true rfl, Nat.le_of_ble_eq_true rfl⟩ hP hS (hK.sub [0] rfl) (hTh _ _ hS) hNc [0, 8, 9, 10, 11] rfl rfl hl.1 rfl (Nat.le_of_ble_eq_true rfl) hf1 d_LW_law_421 (fun H hz9 hk9 hP hS => ?_)
  refine lv_istore (lv' := [(5, .int (nI (2))), (4, .int (nI (i4))), (3, .ref ou), (2, .ref mo), (1, .ref h), (0, .ref ab)]) hx hb d_LW_law_424 hl (by decide) rfl (fun ls hl => ?_)
  refine lv_aload_n hx hb d_LW_law_426 rfl (lv_at hl 3 rfl) ?_
  refine lv_aload_n hx hb d_LW_law_427 rfl (lv_at hl 5 rfl) ?_
  refine lv_iload hx hb d_LW_law_428 (lv_at hl 1 rfl) ?_
  refine lv_iconst (v := nI (1)) hx hb d_LW_law_430 (by decide) ?_
  refine lv_iadd hx hb d_LW_law_431 ?_
  refine fm_tw (z := nI (i4 + 1)) (nI_add _ _) ?_
  refine va_sld hx hb hX hbl hbA hS (vp_in_nI (by omega) (by omega)) d_LW_law_432 ?_
  refine fm_tw (z := nI (c)) (by rw [nI_clamp (by omega)]; exact hx1) ?_
  refine lv_aload_n hx hb d_LW_law_433 rfl (lv_at hl 5 rfl) ?_
  refine lv_iload hx hb d_LW_law_434 (lv_at hl 1 rfl) ?_
  refine lv_iconst (v := nI (2)) hx hb d_LW_law_436 (by decide) ?_
  refine lv_iadd hx hb d_LW_law_437 ?_
  refine fm_tw (z := nI (i4 + 2)) (nI_add _ _) ?_
  refine va_sld hx hb hX hbl hbA hS (vp_in_nI (by omega) (by omega)) d_LW_law_438 ?_
  refine fm_tw (z := (x2)) (by rw [nI_clamp (by omega)]; exact hx2) ?_
  refine fm_wvP S (c_MO_partN l dC dI mo th fa (nI (n)) ga mr (nI (rn)) ka kw (nI (cn)) s0 cB g (nI (c)) x2 (hLn) (fun c9 e9 h9 => by have h8 := fm_le256 hLn (Or.inr h9); have e8 : c = c9 := fm_nIinj hc31 (by omega) e9; subst e8; exact hno)) rfl rfl k_MO_part q_4_14 ⟨Nat.le_of_ble_eq_true rfl, Nat.le_of_ble_eq_true rfl⟩ hP hD hS (hK.sub [2] rfl) [16, 18] (by decide) (by decide) rfl 0 rfl rfl rfl hl.1 rfl (Nat.le_of_ble_eq_true rfl) hf1 d_LW_law_439 rfl (fun H locs hP hD hS => ?_)
  have hP : va_P (dC, dI) classes [(h, .inr (3, [.ref bf, .ref li, .ref ra, .int (nI (rn)), .ref o, .ref sp, .int (nI (1))])), (bf, .inr (0, [.ref ba, .int (nI (n))])), (ba, .inl (cI, 2048, .inl (b))), (li, .inr (2, [.ref pa, .ref va, .ref na, .int (le), .int (nI (cn))])), (pa, .inl (cI, 1066, .inl (pd))), (va, .inl (cI, 1066, .inl (vl))), (na, .inl (cZ, 1066, .inl (kn))), (ra, .inl (cI, 64, .inl (rw))), (o, .inr (1, [.ref wa, .ref sa, .ref la, .int (nI (fm_HF (fm_RB g) 2)), .int (nI (fm_HF (fm_RB g) 3)), .int (nI (s0)), .int (nI (fm_z s0)), .int (nI (fm_h s0))])), (wa, .inl (cI, 2048, .inl (w))), (sa, .inl (cI, 10, .inl (st))), (la, .inl (cI, 10, .inl (ln))), (sp, .inr (1, [.ref wb, .ref sb, .ref lb, .int (bc2), .int (ec2), .int (sz2), .int (sc2), .int (hv2)])), (wb, .inl (cI, 2048, .inl (w2))), (sb, .inl (cI, 10, .inl (st2))), (lb, .inl (cI, 10, .inl (ln2))), (mo, .inr (4, [.int (nI (2)), .ref fa, .int (nI (n)), .ref ga, .int (nI (1)), .int (nI (s0)), .ref mr, .int (nI (rn)), .ref ka, .ref kw, .int (nI (cn))])), (fa, .inl (cB, 8192, .inl (f))), (ga, .inl (cB, 8192, .inl (g))), (mr, .inl (cB, 64, .inl (rb))), (ka, .inl (cI, 1100, .inl (kd))), (kw, .inl (cI, 1100, .inl (wd))), (ou, .inl (cL, 1, .inr (.inl (ov))))] _ := hP
  have hD : va_D (fm_AA s) [(h, .inr (3, [.ref bf, .ref li, .ref ra, .int (nI (rn)), .ref o, .ref sp, .int (nI (1))])), (bf, .inr (0, [.ref ba, .int (nI (n))])), (ba, .inl (cI, 2048, .inl (b))), (li, .inr (2, [.ref pa, .ref va, .ref na, .int (le), .int (nI (cn))])), (pa, .inl (cI, 1066, .inl (pd))), (va, .inl (cI, 1066, .inl (vl))), (na, .inl (cZ, 1066, .inl (kn))), (ra, .inl (cI, 64, .inl (rw))), (o, .inr (1, [.ref wa, .ref sa, .ref la, .int (nI (fm_HF (fm_RB g) 2)), .int (nI (fm_HF (fm_RB g) 3)), .int (nI (s0)), .int (nI (fm_z s0)), .int (nI (fm_h s0))])), (wa, .inl (cI, 2048, .inl (w))), (sa, .inl (cI, 10, .inl (st))), (la, .inl (cI, 10, .inl (ln))), (sp, .inr (1, [.ref wb, .ref sb, .ref lb, .int (bc2), .int (ec2), .int (sz2), .int (sc2), .int (hv2)])), (wb, .inl (cI, 2048, .inl (w2))), (sb, .inl (cI, 10, .inl (st2))), (lb, .inl (cI, 10, .inl (ln2))), (mo, .inr (4, [.int (nI (2)), .ref fa, .int (nI (n)), .ref ga, .int (nI (1)), .int (nI (s0)), .ref mr, .int (nI (rn)), .ref ka, .ref kw, .int (nI (cn))])), (fa, .inl (cB, 8192, .inl (f))), (ga, .inl (cB, 8192, .inl (g))), (mr, .inl (cB, 64, .inl (rb))), (ka, .inl (cI, 1100, .inl (kd))), (kw, .inl (cI, 1100, .inl (wd))), (ou, .inl (cL, 1, .inr (.inl (ov))))] := hD
  refine lv_istore (lv' := [(6, .int (nI (0))), (5, .int (nI (2))), (4, .int (nI (i4))), (3, .ref ou), (2, .ref mo), (1, .ref h), (0, .ref ab)]) hx hb d_LW_law_442 hl (by decide) rfl (fun ls hl => ?_)
  refine lv_aload_n hx hb d_LW_law_444 rfl (lv_at hl 4 rfl) ?_
  refine fm_cv S (c_MO_thrown l dC dI mo (nI (2)) fa (nI (n)) ga (nI (1)) (nI (s0)) mr (nI (rn)) ka kw (nI (cn)) ) rfl rfl k_MO_thrown q_3_147 ⟨Nat.le_of_ble_eq_true rfl, Nat.le_of_ble_eq_true rfl⟩ (hP.sub [16] rfl) (hK.sub [] rfl) 0 rfl rfl rfl hl.1 rfl (Nat.le_of_ble_eq_true rfl) hf1 d_LW_law_445 ?_
  refine lv_iload hx hb d_LW_law_448 (lv_at hl 1 rfl) ?_
  refine lv_icmp_eq (tgt := 455) hx hb d_LW_law_450 (by decide) (fun c0 => ?_) (fun c0 => ?_)
  · have c_450 : 2 = 2 := (nI_eq (a := 2) (b := 2) (by omega) (by omega)).mp c0
    refine lv_iload hx hb d_LW_law_455 (lv_at hl 1 rfl) ?_
    refine lv_if_ne (tgt := 472) hx hb d_LW_law_457 (by decide) (fun c0 => ?_) (fun c0 => ?_)
    · have c_457 : ¬ (2 = 0) := fun z => c0 ((nI_eq (a := 2) (b := 0) (by omega) (by omega)).mpr z)
      refine lv_goto (tgt := 801) hx hb d_LW_law_472 (by decide) ?_
      refine W.widen (k := cells + 1) (n := slots + 6) (by omega) (by omega) ?_
      exact k801 _ _ _ ⟨bf, ba, li, pa, va, na, ra, o, wa, sa, la, sp, wb, sb, lb, fa, ga, mr, ka, kw, n, b, rn, rw, 1, ((le)), cn, pd, vl, kn, (nI (fm_HF (fm_RB g) 2)), (nI (fm_HF (fm_RB g) 3)), (nI (s0)), (nI (fm_z s0)), (nI (fm_h s0)), w, st, ln, ((bc2)), ((ec2)), ((sz2)), ((sc2)), ((hv2)), w2, st2, ln2, (nI (2)), f, g, s0, rb, kd, wd, ov, hJ, hP, hD, hS⟩ (lv_sub hl [2, 3, 4, 5, 6] rfl)
    · have c_457 : 2 = 0 := (nI_eq (a := 2) (b := 0) (by omega) (by omega)).mp c0
      exact absurd c_457 (by decide)
  · have c_450 : ¬ (2 = 2) := fun z => c0 ((nI_eq (a := 2) (b := 2) (by omega) (by omega)).mpr z)
    exact absurd c_450 (by decide)
set_option maxHeartbeats 4000000 in
set_option maxRecDepth 100000 in
theorem lc_partY {pg : Program} {l : Launch} {ev : Env} {s : State} {m : MethodId} {below : List Frame} {meth : Method} {cd : Code} {ab L : Nat} {xs : Nat → Int32} {dC : Nat → ClassId} {dI : Nat → Nat → Nat} {cI cZ cB cL : ClassId} {Q : State → Prop} {cells slots i4 h mo ou : Nat} (CX : fm_CX pg l s m meth cd ab L xs dC dI cI cZ cB cL) (hc : cells + 1 ≤ 1055 ∧ slots + 6 ≤ 36376) (hi : i4 + 4 ≤ L) (k801 : fm_K8 pg l ev s m ab below meth cd dC dI cI cZ cB cL Q cells slots h mo ou i4) {bf ba li pa va na ra o wa sa la sp wb sb lb fa ga mr ka kw : Nat} {n : Nat} {b : Nat → Int32} {rn : Nat} {rw : Nat → Int32} {le : Int32} {cn : Nat} {pd : Nat → Int32} {vl : Nat → Int32} {kn : Nat → Int32} {w : Nat → Int32} {st : Nat → Int32} {ln : Nat → Int32} {bc2 : Int32} {ec2 : Int32} {sz2 : Int32} {sc2 : Int32} {hv2 : Int32} {w2 : Nat → Int32} {st2 : Nat → Int32} {ln2 : Nat → Int32} {th : Int32} {f : Nat → Int32} {g : Nat → Int32} {s0 : Nat} {rb : Nat → Int32} {kd : Nat → Int32} {wd : Nat → Int32} {ov : Nat → Int64} (hJ : fm_J n b f rn rw rb 1 cn vl kn kd wd g s0 (nI (fm_HF (fm_RB g) 2)) (nI (fm_HF (fm_RB g) 3)) (nI (s0)) (nI (fm_z s0)) (nI (fm_h s0)) w st ln) {H : Heap} {locs : List Loc} {ls : Array Slot} (hP : va_P (dC, dI) classes [(h, .inr (3, [.ref bf, .ref li, .ref ra, .int (nI (rn)), .ref o, .ref sp, .int (nI (1))])), (bf, .inr (0, [.ref ba, .int (nI (n))])), (ba, .inl (cI, 2048, .inl (b))), (li, .inr (2, [.ref pa, .ref va, .ref na, .int (le), .int (nI (cn))])), (pa, .inl (cI, 1066, .inl (pd))), (va, .inl (cI, 1066, .inl (vl))), (na, .inl (cZ, 1066, .inl (kn))), (ra, .inl (cI, 64, .inl (rw))), (o, .inr (1, [.ref wa, .ref sa, .ref la, .int (nI (fm_HF (fm_RB g) 2)), .int (nI (fm_HF (fm_RB g) 3)), .int (nI (s0)), .int (nI (fm_z s0)), .int (nI (fm_h s0))])), (wa, .inl (cI, 2048, .inl (w))), (sa, .inl (cI, 10, .inl (st))), (la, .inl (cI, 10, .inl (ln))), (sp, .inr (1, [.ref wb, .ref sb, .ref lb, .int (bc2), .int (ec2), .int (sz2), .int (sc2), .int (hv2)])), (wb, .inl (cI, 2048, .inl (w2))), (sb, .inl (cI, 10, .inl (st2))), (lb, .inl (cI, 10, .inl (ln2))), (mo, .inr (4, [.int (th), .ref fa, .int (nI (n)), .ref ga, .int (nI (1)), .int (nI (s0)), .ref mr, .int (nI (rn)), .ref ka, .ref kw, .int (nI (cn))])), (fa, .inl (cB, 8192, .inl (f))), (ga, .inl (cB, 8192, .inl (g))), (mr, .inl (cB, 64, .inl (rb))), (ka, .inl (cI, 1100, .inl (kd))), (kw, .inl (cI, 1100, .inl (wd))), (ou, .inl (cL, 1, .inr (.inl (ov))))] H) (hD : va_D (fm_AA s) [(h, .inr (3, [.ref bf, .ref li, .ref ra, .int (nI (rn)), .ref o, .ref sp, .int (nI (1))])), (bf, .inr (0, [.ref ba, .int (nI (n))])), (ba, .inl (cI, 2048, .inl (b))), (li, .inr (2, [.ref pa, .ref va, .ref na, .int (le), .int (nI (cn))])), (pa, .inl (cI, 1066, .inl (pd))), (va, .inl (cI, 1066, .inl (vl))), (na, .inl (cZ, 1066, .inl (kn))), (ra, .inl (cI, 64, .inl (rw))), (o, .inr (1, [.ref wa, .ref sa, .ref la, .int (nI (fm_HF (fm_RB g) 2)), .int (nI (fm_HF (fm_RB g) 3)), .int (nI (s0)), .int (nI (fm_z s0)), .int (nI (fm_h s0))])), (wa, .inl (cI, 2048, .inl (w))), (sa, .inl (cI, 10, .inl (st))), (la, .inl (cI, 10, .inl (ln))), (sp, .inr (1, [.ref wb, .ref sb, .ref lb, .int (bc2), .int (ec2), .int (sz2), .int (sc2), .int (hv2)])), (wb, .inl (cI, 2048, .inl (w2))), (sb, .inl (cI, 10, .inl (st2))), (lb, .inl (cI, 10, .inl (ln2))), (mo, .inr (4, [.int (th), .ref fa, .int (nI (n)), .ref ga, .int (nI (1)), .int (nI (s0)), .ref mr, .int (nI (rn)), .ref ka, .ref kw, .int (nI (cn))])), (fa, .inl (cB, 8192, .inl (f))), (ga, .inl (cB, 8192, .inl (g))), (mr, .inl (cB, 64, .inl (rb))), (ka, .inl (cI, 1100, .inl (kd))), (kw, .inl (cI, 1100, .inl (wd))), (ou, .inl (cL, 1, .inr (.inl (ov))))]) (hS : va_S (fm_AA s) s.heap H locs) (hl : lv_has ls 7 [(4, .int (nI (i4))), (3, .ref ou), (2, .ref mo), (1, .ref h), (0, .ref ab)]) (c : Nat) (k : Nat) (hx1 : xs (i4 + 1) = nI c) (hx2 : xs (i4 + 2) = nI k) (hth : fm_th (fm_RB g) c = true) (hc31 : c < 2 ^ 31) (htg : fm_tag (fm_RB g) c = 3) (hk : k < 4) : W pg l ev room_1 s m #[Value.ref ab] below meth cd H locs cells slots Q (F0 m 407 ls []) := by
  obtain ⟨hl0, C0, hL8, hK, hTh, hNc⟩ := id CX
  obtain ⟨hx, hb, hr, hml, hown, hts, hX, hbl, hlocks, hgv⟩ := id C0
  have hbA : ¬ fm_AA s ab := Nat.not_le.mpr hbl
  have ht : ∀ w ∈ fm_T, w.before #[Value.ref ab] s = true := fun w h => hts w (fm_ofT h).1
  have hown : s.vm.findClass R_LW = some m.cls := hown
  have S : CallFix pg m cd code 7 s #[Value.ref ab] (Cond.initialized R_FM :: fm_T) R_LW := ⟨hx, hb, hml, hown, fun w h => (List.mem_cons.mp h).elim (fun e => by rw [e]; exact ht _ q_1_1) (ht w)⟩
  have hf0 : cells ≤ room_1.cells ∧ slots ≤ room_1.slots := ⟨show cells ≤ 1055 by omega, show slots ≤ 36376 by omega⟩
  have hf1 : cells + 1 ≤ room_1.cells ∧ slots + 6 ≤ room_1.slots := hc
  obtain ⟨j1, j2, j3, j4, j5, j6, j7, j8, j9, j10⟩ := id hJ
  obtain ⟨hF, hV, hs, -, -, -, -, -⟩ := j10 rfl
  have hz := hV.2.2.2.1
  have hLn := hV.1
  refine lv_aload_n hx hb d_LW_law_407 rfl (lv_at hl 3 rfl) ?_
  refine lv_aload_n hx hb d_LW_law_408 rfl (lv_at hl 4 rfl) ?_
  refine lv_iload hx hb d_LW_law_409 (lv_at hl 0 rfl) ?_
  refine lv_iconst (v := nI (1)) hx hb d_LW_law_411 (by decide) ?_
  refine lv_iadd hx hb d_LW_law_412 ?_
  refine fm_tw (z := nI (i4 + 1)) (nI_add _ _) ?_
  refine va_sld hx hb hX hbl hbA hS (vp_in_nI (by omega) (by omega)) d_LW_law_413 ?_
  refine fm_tw (z := nI (c)) (by rw [nI_clamp (by omega)]; exact hx1) ?_
  refine lv_aload_n hx hb d_LW_law_414 rfl (lv_at hl 4 rfl) ?_
  refine lv_iload hx hb d_LW_law_415 (lv_at hl 0 rfl) ?_
  refine lv_iconst (v := nI (2)) hx hb d_LW_law_417 (by decide) ?_
  refine lv_iadd hx hb d_LW_law_418 ?_
  refine fm_tw (z := nI (i4 + 2)) (nI_add _ _) ?_
  refine va_sld hx hb hX hbl hbA hS (vp_in_nI (by omega) (by omega)) d_LW_law_419 ?_
  refine fm_tw (z := nI (k)) (by rw [nI_clamp (by omega)]; exact hx2) ?_
  refine lv_aload_n hx hb d_LW_law_420 rfl (lv_at hl 1 rfl) ?_
  refine fm_wswP S (c_LW_partY l dC dI h bf li ra (nI (rn)) o sp wa sa la s0 cI (fm_RB g) w st ln c k ou cL ov (hF) (hV) (hth) (hc31) (htg) (hk)) rfl rfl k_LW_part q_2_227 ⟨Nat.le_of_ble_eq_true rfl, Nat.le_of_ble_eq_true rfl⟩ hP hD hS (hK.sub [0, 3] rfl) [0, 8, 9, 10, 11, 22] (by decide) (by decide) rfl rfl hl.1 rfl (Nat.le_of_ble_eq_true rfl) hf0 d_LW_law_421 rfl (fun H locs hP hD hS => ?_)
  have hP : va_P (dC, dI) classes [(h, .inr (3, [.ref bf, .ref li, .ref ra, .int (nI (rn)), .ref o, .ref sp, .int (nI (1))])), (bf, .inr (0, [.ref ba, .int (nI (n))])), (ba, .inl (cI, 2048, .inl (b))), (li, .inr (2, [.ref pa, .ref va, .ref na, .int (le), .int (nI (cn))])), (pa, .inl (cI, 1066, .inl (pd))), (va, .inl (cI, 1066, .inl (vl))), (na, .inl (cZ, 1066, .inl (kn))), (ra, .inl (cI, 64, .inl (rw))), (o, .inr (1, [.ref wa, .ref sa, .ref la, .int (nI (fm_HF (fm_RB g) 2)), .int (nI (fm_HF (fm_RB g) 3)), .int (nI (s0)), .int (nI (fm_z s0)), .int (nI (fm_h s0))])), (wa, .inl (cI, 2048, .inl (w))), (sa, .inl (cI, 10, .inl (st))), (la, .inl (cI, 10, .inl (ln))), (sp, .inr (1, [.ref wb, .ref sb, .ref lb, .int (bc2), .int (ec2), .int (sz2), .int (sc2), .int (hv2)])), (wb, .inl (cI, 2048, .inl (w2))), (sb, .inl (cI, 10, .inl (st2))), (lb, .inl (cI, 10, .inl (ln2))), (mo, .inr (4, [.int (th), .ref fa, .int (nI (n)), .ref ga, .int (nI (1)), .int (nI (s0)), .ref mr, .int (nI (rn)), .ref ka, .ref kw, .int (nI (cn))])), (fa, .inl (cB, 8192, .inl (f))), (ga, .inl (cB, 8192, .inl (g))), (mr, .inl (cB, 64, .inl (rb))), (ka, .inl (cI, 1100, .inl (kd))), (kw, .inl (cI, 1100, .inl (wd))), (ou, .inl (cL, 1, .inr (.inl (vp_updL ov 0 ((nI (fm_AT (fm_RB g) 8 (fm_rest (fm_RB g) c) k)).toInt64)))))] _ := hP
  have hD : va_D (fm_AA s) [(h, .inr (3, [.ref bf, .ref li, .ref ra, .int (nI (rn)), .ref o, .ref sp, .int (nI (1))])), (bf, .inr (0, [.ref ba, .int (nI (n))])), (ba, .inl (cI, 2048, .inl (b))), (li, .inr (2, [.ref pa, .ref va, .ref na, .int (le), .int (nI (cn))])), (pa, .inl (cI, 1066, .inl (pd))), (va, .inl (cI, 1066, .inl (vl))), (na, .inl (cZ, 1066, .inl (kn))), (ra, .inl (cI, 64, .inl (rw))), (o, .inr (1, [.ref wa, .ref sa, .ref la, .int (nI (fm_HF (fm_RB g) 2)), .int (nI (fm_HF (fm_RB g) 3)), .int (nI (s0)), .int (nI (fm_z s0)), .int (nI (fm_h s0))])), (wa, .inl (cI, 2048, .inl (w))), (sa, .inl (cI, 10, .inl (st))), (la, .inl (cI, 10, .inl (ln))), (sp, .inr (1, [.ref wb, .ref sb, .ref lb, .int (bc2), .int (ec2), .int (sz2), .int (sc2), .int (hv2)])), (wb, .inl (cI, 2048, .inl (w2))), (sb, .inl (cI, 10, .inl (st2))), (lb, .inl (cI, 10, .inl (ln2))), (mo, .inr (4, [.int (th), .ref fa, .int (nI (n)), .ref ga, .int (nI (1)), .int (nI (s0)), .ref mr, .int (nI (rn)), .ref ka, .ref kw, .int (nI (cn))])), (fa, .inl (cB, 8192, .inl (f))), (ga, .inl (cB, 8192, .inl (g))), (mr, .inl (cB, 64, .inl (rb))), (ka, .inl (cI, 1100, .inl (kd))), (kw, .inl (cI, 1100, .inl (wd))), (ou, .inl (cL, 1, .inr (.inl (vp_updL ov 0 ((nI (fm_AT (fm_RB g) 8 (fm_rest (fm_RB g) c) k)).toInt64)))))] := hD
  refine lv_istore (lv' := [(5, .int (nI (0))), (4, .int (nI (i4))), (3, .ref ou), (2, .ref mo), (1, .ref h), (0, .ref ab)]) hx hb d_LW_law_424 hl (by decide) rfl (fun ls hl => ?_)
  refine lv_aload_n hx hb d_LW_law_426 rfl (lv_at hl 3 rfl) ?_
  refine lv_aload_n hx hb d_LW_law_427 rfl (lv_at hl 5 rfl) ?_
  refine lv_iload hx hb d_LW_law_428 (lv_at hl 1 rfl) ?_
  refine lv_iconst (v := nI (1)) hx hb d_LW_law_430 (by decide) ?_
  refine lv_iadd hx hb d_LW_law_431 ?_
  refine fm_tw (z := nI (i4 + 1)) (nI_add _ _) ?_
  refine va_sld hx hb hX hbl hbA hS (vp_in_nI (by omega) (by omega)) d_LW_law_432 ?_
  refine fm_tw (z := nI (c)) (by rw [nI_clamp (by omega)]; exact hx1) ?_
  refine lv_aload_n hx hb d_LW_law_433 rfl (lv_at hl 5 rfl) ?_
  refine lv_iload hx hb d_LW_law_434 (lv_at hl 1 rfl) ?_
  refine lv_iconst (v := nI (2)) hx hb d_LW_law_436 (by decide) ?_
  refine lv_iadd hx hb d_LW_law_437 ?_
  refine fm_tw (z := nI (i4 + 2)) (nI_add _ _) ?_
  refine va_sld hx hb hX hbl hbA hS (vp_in_nI (by omega) (by omega)) d_LW_law_438 ?_
  refine fm_tw (z := nI (k)) (by rw [nI_clamp (by omega)]; exact hx2) ?_
  refine fm_wvP S (c_MO_partY l dC dI mo th fa (nI (n)) ga mr (nI (rn)) ka kw (nI (cn)) s0 cB g c k (hV) (hth) (hc31) (htg) (hk)) rfl rfl k_MO_part q_4_14 ⟨Nat.le_of_ble_eq_true rfl, Nat.le_of_ble_eq_true rfl⟩ hP hD hS (hK.sub [2] rfl) [16, 18] (by decide) (by decide) rfl 0 rfl rfl rfl hl.1 rfl (Nat.le_of_ble_eq_true rfl) hf0 d_LW_law_439 rfl (fun H locs hP hD hS => ?_)
  have hP : va_P (dC, dI) classes [(h, .inr (3, [.ref bf, .ref li, .ref ra, .int (nI (rn)), .ref o, .ref sp, .int (nI (1))])), (bf, .inr (0, [.ref ba, .int (nI (n))])), (ba, .inl (cI, 2048, .inl (b))), (li, .inr (2, [.ref pa, .ref va, .ref na, .int (le), .int (nI (cn))])), (pa, .inl (cI, 1066, .inl (pd))), (va, .inl (cI, 1066, .inl (vl))), (na, .inl (cZ, 1066, .inl (kn))), (ra, .inl (cI, 64, .inl (rw))), (o, .inr (1, [.ref wa, .ref sa, .ref la, .int (nI (fm_HF (fm_RB g) 2)), .int (nI (fm_HF (fm_RB g) 3)), .int (nI (s0)), .int (nI (fm_z s0)), .int (nI (fm_h s0))])), (wa, .inl (cI, 2048, .inl (w))), (sa, .inl (cI, 10, .inl (st))), (la, .inl (cI, 10, .inl (ln))), (sp, .inr (1, [.ref wb, .ref sb, .ref lb, .int (bc2), .int (ec2), .int (sz2), .int (sc2), .int (hv2)])), (wb, .inl (cI, 2048, .inl (w2))), (sb, .inl (cI, 10, .inl (st2))), (lb, .inl (cI, 10, .inl (ln2))), (mo, .inr (4, [.int (nI (0)), .ref fa, .int (nI (n)), .ref ga, .int (nI (1)), .int (nI (s0)), .ref mr, .int (nI (rn)), .ref ka, .ref kw, .int (nI (cn))])), (fa, .inl (cB, 8192, .inl (f))), (ga, .inl (cB, 8192, .inl (g))), (mr, .inl (cB, 64, .inl (rb))), (ka, .inl (cI, 1100, .inl (kd))), (kw, .inl (cI, 1100, .inl (wd))), (ou, .inl (cL, 1, .inr (.inl (vp_updL ov 0 ((nI (fm_AT (fm_RB g) 8 (fm_rest (fm_RB g) c) k)).toInt64)))))] _ := hP
  have hD : va_D (fm_AA s) [(h, .inr (3, [.ref bf, .ref li, .ref ra, .int (nI (rn)), .ref o, .ref sp, .int (nI (1))])), (bf, .inr (0, [.ref ba, .int (nI (n))])), (ba, .inl (cI, 2048, .inl (b))), (li, .inr (2, [.ref pa, .ref va, .ref na, .int (le), .int (nI (cn))])), (pa, .inl (cI, 1066, .inl (pd))), (va, .inl (cI, 1066, .inl (vl))), (na, .inl (cZ, 1066, .inl (kn))), (ra, .inl (cI, 64, .inl (rw))), (o, .inr (1, [.ref wa, .ref sa, .ref la, .int (nI (fm_HF (fm_RB g) 2)), .int (nI (fm_HF (fm_RB g) 3)), .int (nI (s0)), .int (nI (fm_z s0)), .int (nI (fm_h s0))])), (wa, .inl (cI, 2048, .inl (w))), (sa, .inl (cI, 10, .inl (st))), (la, .inl (cI, 10, .inl (ln))), (sp, .inr (1, [.ref wb, .ref sb, .ref lb, .int (bc2), .int (ec2), .int (sz2), .int (sc2), .int (hv2)])), (wb, .inl (cI, 2048, .inl (w2))), (sb, .inl (cI, 10, .inl (st2))), (lb, .inl (cI, 10, .inl (ln2))), (mo, .inr (4, [.int (nI (0)), .ref fa, .int (nI (n)), .ref ga, .int (nI (1)), .int (nI (s0)), .ref mr, .int (nI (rn)), .ref ka, .ref kw, .int (nI (cn))])), (fa, .inl (cB, 8192, .inl (f))), (ga, .inl (cB, 8192, .inl (g))), (mr, .inl (cB, 64, .inl (rb))), (ka, .inl (cI, 1100, .inl (kd))), (kw, .inl (cI, 1100, .inl (wd))), (ou, .inl (cL, 1, .inr (.inl (vp_updL ov 0 ((nI (fm_AT (fm_RB g) 8 (fm_rest (fm_RB g) c) k)).toInt64)))))] := hD
  refine lv_istore (lv' := [(6, .int (nI (fm_AT (fm_RB g) 8 (fm_rest (fm_RB g) c) k))), (5, .int (nI (0))), (4, .int (nI (i4))), (3, .ref ou), (2, .ref mo), (1, .ref h), (0, .ref ab)]) hx hb d_LW_law_442 hl (by decide) rfl (fun ls hl => ?_)
  refine lv_aload_n hx hb d_LW_law_444 rfl (lv_at hl 4 rfl) ?_
  refine fm_cv S (c_MO_thrown l dC dI mo (nI (0)) fa (nI (n)) ga (nI (1)) (nI (s0)) mr (nI (rn)) ka kw (nI (cn)) ) rfl rfl k_MO_thrown q_3_147 ⟨Nat.le_of_ble_eq_true rfl, Nat.le_of_ble_eq_true rfl⟩ (hP.sub [16] rfl) (hK.sub [] rfl) 0 rfl rfl rfl hl.1 rfl (Nat.le_of_ble_eq_true rfl) hf0 d_LW_law_445 ?_
  refine lv_iload hx hb d_LW_law_448 (lv_at hl 1 rfl) ?_
  refine lv_icmp_eq (tgt := 455) hx hb d_LW_law_450 (by decide) (fun c0 => ?_) (fun c0 => ?_)
  · have c_450 : 0 = 0 := (nI_eq (a := 0) (b := 0) (by omega) (by omega)).mp c0
    refine lv_iload hx hb d_LW_law_455 (lv_at hl 1 rfl) ?_
    refine lv_if_ne (tgt := 472) hx hb d_LW_law_457 (by decide) (fun c0 => ?_) (fun c0 => ?_)
    · have c_457 : ¬ (0 = 0) := fun z => c0 ((nI_eq (a := 0) (b := 0) (by omega) (by omega)).mpr z)
      exact absurd c_457 (by decide)
    · have c_457 : 0 = 0 := (nI_eq (a := 0) (b := 0) (by omega) (by omega)).mp c0
      refine lv_aload_n hx hb d_LW_law_460 rfl (lv_at hl 3 rfl) ?_
      refine lv_iconst (v := nI (0)) hx hb d_LW_law_461 (by decide) ?_
      refine va_lald hx hb hK hP 22 3 rfl rfl (vp_in_nI (by decide) (by decide)) d_LW_law_462 ?_
      refine fm_twl (z := (nI (fm_AT (fm_RB g) 8 (fm_rest (fm_RB g) c) k)).toInt64) (by rw [nI_clamp (by decide)]; exact fm_updL0 _ _) ?_
      refine lv_iload hx hb d_LW_law_463 (lv_at hl 0 rfl) ?_
      refine lv_i2l (v := (nI (fm_AT (fm_RB g) 8 (fm_rest (fm_RB g) c) k)).toInt64) hx hb d_LW_law_465 rfl ?_
      refine W.lcmp hx hb d_LW_law_466 ?_
      refine lv_if_eq (tgt := 472) hx hb d_LW_law_467 (by decide) (fun c0 => ?_) (fun c0 => ?_)
      · have c_467 := c0
        refine lv_goto (tgt := 801) hx hb d_LW_law_472 (by decide) ?_
        refine W.widen (k := cells + 1) (n := slots + 6) (by omega) (by omega) ?_
        exact k801 _ _ _ ⟨bf, ba, li, pa, va, na, ra, o, wa, sa, la, sp, wb, sb, lb, fa, ga, mr, ka, kw, n, b, rn, rw, 1, ((le)), cn, pd, vl, kn, (nI (fm_HF (fm_RB g) 2)), (nI (fm_HF (fm_RB g) 3)), (nI (s0)), (nI (fm_z s0)), (nI (fm_h s0)), w, st, ln, ((bc2)), ((ec2)), ((sz2)), ((sc2)), ((hv2)), w2, st2, ln2, (nI (0)), f, g, s0, rb, kd, wd, (vp_updL ov 0 ((nI (fm_AT (fm_RB g) 8 (fm_rest (fm_RB g) c) k)).toInt64)), hJ, hP, hD, hS⟩ (lv_sub hl [2, 3, 4, 5, 6] rfl)
      · have c_467 := c0
        exact absurd (fm_lcmp0 _) c_467
  · have c_450 : ¬ (0 = 0) := fun z => c0 ((nI_eq (a := 0) (b := 0) (by omega) (by omega)).mpr z)
    exact absurd c_450 (by decide)
set_option maxHeartbeats 4000000 in
set_option maxRecDepth 100000 in
theorem lc_parameterN {pg : Program} {l : Launch} {ev : Env} {s : State} {m : MethodId} {below : List Frame} {meth : Method} {cd : Code} {ab L : Nat} {xs : Nat → Int32} {dC : Nat → ClassId} {dI : Nat → Nat → Nat} {cI cZ cB cL : ClassId} {Q : State → Prop} {cells slots i4 h mo ou : Nat} (CX : fm_CX pg l s m meth cd ab L xs dC dI cI cZ cB cL) (hc : cells + 1 ≤ 1055 ∧ slots + 6 ≤ 36376) (hi : i4 + 4 ≤ L) (k801 : fm_K8 pg l ev s m ab below meth cd dC dI cI cZ cB cL Q cells slots h mo ou i4) {bf ba li pa va na ra o wa sa la sp wb sb lb fa ga mr ka kw : Nat} {n : Nat} {b : Nat → Int32} {rn : Nat} {rw : Nat → Int32} {le : Int32} {cn : Nat} {pd : Nat → Int32} {vl : Nat → Int32} {kn : Nat → Int32} {w : Nat → Int32} {st : Nat → Int32} {ln : Nat → Int32} {bc2 : Int32} {ec2 : Int32} {sz2 : Int32} {sc2 : Int32} {hv2 : Int32} {w2 : Nat → Int32} {st2 : Nat → Int32} {ln2 : Nat → Int32} {th : Int32} {f : Nat → Int32} {g : Nat → Int32} {s0 : Nat} {rb : Nat → Int32} {kd : Nat → Int32} {wd : Nat → Int32} {ov : Nat → Int64} (hJ : fm_J n b f rn rw rb 1 cn vl kn kd wd g s0 (nI (fm_HF (fm_RB g) 2)) (nI (fm_HF (fm_RB g) 3)) (nI (s0)) (nI (fm_z s0)) (nI (fm_h s0)) w st ln) {H : Heap} {locs : List Loc} {ls : Array Slot} (hP : va_P (dC, dI) classes [(h, .inr (3, [.ref bf, .ref li, .ref ra, .int (nI (rn)), .ref o, .ref sp, .int (nI (1))])), (bf, .inr (0, [.ref ba, .int (nI (n))])), (ba, .inl (cI, 2048, .inl (b))), (li, .inr (2, [.ref pa, .ref va, .ref na, .int (le), .int (nI (cn))])), (pa, .inl (cI, 1066, .inl (pd))), (va, .inl (cI, 1066, .inl (vl))), (na, .inl (cZ, 1066, .inl (kn))), (ra, .inl (cI, 64, .inl (rw))), (o, .inr (1, [.ref wa, .ref sa, .ref la, .int (nI (fm_HF (fm_RB g) 2)), .int (nI (fm_HF (fm_RB g) 3)), .int (nI (s0)), .int (nI (fm_z s0)), .int (nI (fm_h s0))])), (wa, .inl (cI, 2048, .inl (w))), (sa, .inl (cI, 10, .inl (st))), (la, .inl (cI, 10, .inl (ln))), (sp, .inr (1, [.ref wb, .ref sb, .ref lb, .int (bc2), .int (ec2), .int (sz2), .int (sc2), .int (hv2)])), (wb, .inl (cI, 2048, .inl (w2))), (sb, .inl (cI, 10, .inl (st2))), (lb, .inl (cI, 10, .inl (ln2))), (mo, .inr (4, [.int (th), .ref fa, .int (nI (n)), .ref ga, .int (nI (1)), .int (nI (s0)), .ref mr, .int (nI (rn)), .ref ka, .ref kw, .int (nI (cn))])), (fa, .inl (cB, 8192, .inl (f))), (ga, .inl (cB, 8192, .inl (g))), (mr, .inl (cB, 64, .inl (rb))), (ka, .inl (cI, 1100, .inl (kd))), (kw, .inl (cI, 1100, .inl (wd))), (ou, .inl (cL, 1, .inr (.inl (ov))))] H) (hD : va_D (fm_AA s) [(h, .inr (3, [.ref bf, .ref li, .ref ra, .int (nI (rn)), .ref o, .ref sp, .int (nI (1))])), (bf, .inr (0, [.ref ba, .int (nI (n))])), (ba, .inl (cI, 2048, .inl (b))), (li, .inr (2, [.ref pa, .ref va, .ref na, .int (le), .int (nI (cn))])), (pa, .inl (cI, 1066, .inl (pd))), (va, .inl (cI, 1066, .inl (vl))), (na, .inl (cZ, 1066, .inl (kn))), (ra, .inl (cI, 64, .inl (rw))), (o, .inr (1, [.ref wa, .ref sa, .ref la, .int (nI (fm_HF (fm_RB g) 2)), .int (nI (fm_HF (fm_RB g) 3)), .int (nI (s0)), .int (nI (fm_z s0)), .int (nI (fm_h s0))])), (wa, .inl (cI, 2048, .inl (w))), (sa, .inl (cI, 10, .inl (st))), (la, .inl (cI, 10, .inl (ln))), (sp, .inr (1, [.ref wb, .ref sb, .ref lb, .int (bc2), .int (ec2), .int (sz2), .int (sc2), .int (hv2)])), (wb, .inl (cI, 2048, .inl (w2))), (sb, .inl (cI, 10, .inl (st2))), (lb, .inl (cI, 10, .inl (ln2))), (mo, .inr (4, [.int (th), .ref fa, .int (nI (n)), .ref ga, .int (nI (1)), .int (nI (s0)), .ref mr, .int (nI (rn)), .ref ka, .ref kw, .int (nI (cn))])), (fa, .inl (cB, 8192, .inl (f))), (ga, .inl (cB, 8192, .inl (g))), (mr, .inl (cB, 64, .inl (rb))), (ka, .inl (cI, 1100, .inl (kd))), (kw, .inl (cI, 1100, .inl (wd))), (ou, .inl (cL, 1, .inr (.inl (ov))))]) (hS : va_S (fm_AA s) s.heap H locs) (hl : lv_has ls 7 [(4, .int (nI (i4))), (3, .ref ou), (2, .ref mo), (1, .ref h), (0, .ref ab)]) (x1 : Int32) (hx1 : xs (i4 + 1) = x1) (hno : x1 < nI 1 ∨ nI (fm_WD (fm_RB g) 9) < x1) (hno2 : ∀ i : Nat, x1 = nI i → 0 < i → fm_WD (fm_RB g) 9 < i) : W pg l ev room_1 s m #[Value.ref ab] below meth cd H locs cells slots Q (F0 m 475 ls []) := by
  obtain ⟨hl0, C0, hL8, hK, hTh, hNc⟩ := id CX
  obtain ⟨hx, hb, hr, hml, hown, hts, hX, hbl, hlocks, hgv⟩ := id C0
  have hbA : ¬ fm_AA s ab := Nat.not_le.mpr hbl
  have ht : ∀ w ∈ fm_T, w.before #[Value.ref ab] s = true := fun w h => hts w (fm_ofT h).1
  have hown : s.vm.findClass R_LW = some m.cls := hown
  have S : CallFix pg m cd code 7 s #[Value.ref ab] (Cond.initialized R_FM :: fm_T) R_LW := ⟨hx, hb, hml, hown, fun w h => (List.mem_cons.mp h).elim (fun e => by rw [e]; exact ht _ q_1_1) (ht w)⟩
  have hf0 : cells ≤ room_1.cells ∧ slots ≤ room_1.slots := ⟨show cells ≤ 1055 by omega, show slots ≤ 36376 by omega⟩
  have hf1 : cells + 1 ≤ room_1.cells ∧ slots + 6 ≤ room_1.slots := hc
  obtain ⟨j1, j2, j3, j4, j5, j6, j7, j8, j9, j10⟩ := id hJ
  obtain ⟨hF, hV, hs, -, -, -, -, -⟩ := j10 rfl
  have hz := hV.2.2.2.1
  have hLn := hV.1
  refine lv_aload_n hx hb d_LW_law_475 rfl (lv_at hl 3 rfl) ?_
  refine lv_aload_n hx hb d_LW_law_476 rfl (lv_at hl 4 rfl) ?_
  refine lv_iload hx hb d_LW_law_477 (lv_at hl 0 rfl) ?_
  refine lv_iconst (v := nI (1)) hx hb d_LW_law_479 (by decide) ?_
  refine lv_iadd hx hb d_LW_law_480 ?_
  refine fm_tw (z := nI (i4 + 1)) (nI_add _ _) ?_
  refine va_sld hx hb hX hbl hbA hS (vp_in_nI (by omega) (by omega)) d_LW_law_481 ?_
  refine fm_tw (z := (x1)) (by rw [nI_clamp (by omega)]; exact hx1) ?_
  refine lv_aload_n hx hb d_LW_law_482 rfl (lv_at hl 1 rfl) ?_
  refine fm_csw S (x_LW_parameterN l hl0 dC dI h bf li ra (nI (rn)) o sp wa sa la s0 cI (fm_RB g) w st ln x1 ou (hF) (hno)) rfl rfl k_LW_parameter q_2_237 ⟨Nat.le_of_ble_eq_true rfl, Nat.le_of_ble_eq_true rfl⟩ hP hS (hK.sub [0] rfl) (hTh _ _ hS) hNc [0, 8, 9, 10, 11] rfl rfl hl.1 rfl (Nat.le_of_ble_eq_true rfl) hf1 d_LW_law_483 (fun H hz9 hk9 hP hS => ?_)
  refine lv_istore (lv' := [(5, .int (nI (2))), (4, .int (nI (i4))), (3, .ref ou), (2, .ref mo), (1, .ref h), (0, .ref ab)]) hx hb d_LW_law_486 hl (by decide) rfl (fun ls hl => ?_)
  refine lv_aload_n hx hb d_LW_law_488 rfl (lv_at hl 3 rfl) ?_
  refine lv_aload_n hx hb d_LW_law_489 rfl (lv_at hl 5 rfl) ?_
  refine lv_iload hx hb d_LW_law_490 (lv_at hl 1 rfl) ?_
  refine lv_iconst (v := nI (1)) hx hb d_LW_law_492 (by decide) ?_
  refine lv_iadd hx hb d_LW_law_493 ?_
  refine fm_tw (z := nI (i4 + 1)) (nI_add _ _) ?_
  refine va_sld hx hb hX hbl hbA hS (vp_in_nI (by omega) (by omega)) d_LW_law_494 ?_
  refine fm_tw (z := (x1)) (by rw [nI_clamp (by omega)]; exact hx1) ?_
  refine fm_wvP S (c_MO_parameterN l dC dI mo th fa (nI (n)) ga mr (nI (rn)) ka kw (nI (cn)) s0 cB g x1 (hLn) (hno2)) rfl rfl k_MO_parameter q_4_18 ⟨Nat.le_of_ble_eq_true rfl, Nat.le_of_ble_eq_true rfl⟩ hP hD hS (hK.sub [2] rfl) [16, 18] (by decide) (by decide) rfl 0 rfl rfl rfl hl.1 rfl (Nat.le_of_ble_eq_true rfl) hf1 d_LW_law_495 rfl (fun H locs hP hD hS => ?_)
  have hP : va_P (dC, dI) classes [(h, .inr (3, [.ref bf, .ref li, .ref ra, .int (nI (rn)), .ref o, .ref sp, .int (nI (1))])), (bf, .inr (0, [.ref ba, .int (nI (n))])), (ba, .inl (cI, 2048, .inl (b))), (li, .inr (2, [.ref pa, .ref va, .ref na, .int (le), .int (nI (cn))])), (pa, .inl (cI, 1066, .inl (pd))), (va, .inl (cI, 1066, .inl (vl))), (na, .inl (cZ, 1066, .inl (kn))), (ra, .inl (cI, 64, .inl (rw))), (o, .inr (1, [.ref wa, .ref sa, .ref la, .int (nI (fm_HF (fm_RB g) 2)), .int (nI (fm_HF (fm_RB g) 3)), .int (nI (s0)), .int (nI (fm_z s0)), .int (nI (fm_h s0))])), (wa, .inl (cI, 2048, .inl (w))), (sa, .inl (cI, 10, .inl (st))), (la, .inl (cI, 10, .inl (ln))), (sp, .inr (1, [.ref wb, .ref sb, .ref lb, .int (bc2), .int (ec2), .int (sz2), .int (sc2), .int (hv2)])), (wb, .inl (cI, 2048, .inl (w2))), (sb, .inl (cI, 10, .inl (st2))), (lb, .inl (cI, 10, .inl (ln2))), (mo, .inr (4, [.int (nI (2)), .ref fa, .int (nI (n)), .ref ga, .int (nI (1)), .int (nI (s0)), .ref mr, .int (nI (rn)), .ref ka, .ref kw, .int (nI (cn))])), (fa, .inl (cB, 8192, .inl (f))), (ga, .inl (cB, 8192, .inl (g))), (mr, .inl (cB, 64, .inl (rb))), (ka, .inl (cI, 1100, .inl (kd))), (kw, .inl (cI, 1100, .inl (wd))), (ou, .inl (cL, 1, .inr (.inl (ov))))] _ := hP
  have hD : va_D (fm_AA s) [(h, .inr (3, [.ref bf, .ref li, .ref ra, .int (nI (rn)), .ref o, .ref sp, .int (nI (1))])), (bf, .inr (0, [.ref ba, .int (nI (n))])), (ba, .inl (cI, 2048, .inl (b))), (li, .inr (2, [.ref pa, .ref va, .ref na, .int (le), .int (nI (cn))])), (pa, .inl (cI, 1066, .inl (pd))), (va, .inl (cI, 1066, .inl (vl))), (na, .inl (cZ, 1066, .inl (kn))), (ra, .inl (cI, 64, .inl (rw))), (o, .inr (1, [.ref wa, .ref sa, .ref la, .int (nI (fm_HF (fm_RB g) 2)), .int (nI (fm_HF (fm_RB g) 3)), .int (nI (s0)), .int (nI (fm_z s0)), .int (nI (fm_h s0))])), (wa, .inl (cI, 2048, .inl (w))), (sa, .inl (cI, 10, .inl (st))), (la, .inl (cI, 10, .inl (ln))), (sp, .inr (1, [.ref wb, .ref sb, .ref lb, .int (bc2), .int (ec2), .int (sz2), .int (sc2), .int (hv2)])), (wb, .inl (cI, 2048, .inl (w2))), (sb, .inl (cI, 10, .inl (st2))), (lb, .inl (cI, 10, .inl (ln2))), (mo, .inr (4, [.int (nI (2)), .ref fa, .int (nI (n)), .ref ga, .int (nI (1)), .int (nI (s0)), .ref mr, .int (nI (rn)), .ref ka, .ref kw, .int (nI (cn))])), (fa, .inl (cB, 8192, .inl (f))), (ga, .inl (cB, 8192, .inl (g))), (mr, .inl (cB, 64, .inl (rb))), (ka, .inl (cI, 1100, .inl (kd))), (kw, .inl (cI, 1100, .inl (wd))), (ou, .inl (cL, 1, .inr (.inl (ov))))] := hD
  refine lv_istore (lv' := [(6, .int (nI (0))), (5, .int (nI (2))), (4, .int (nI (i4))), (3, .ref ou), (2, .ref mo), (1, .ref h), (0, .ref ab)]) hx hb d_LW_law_498 hl (by decide) rfl (fun ls hl => ?_)
  refine lv_aload_n hx hb d_LW_law_500 rfl (lv_at hl 4 rfl) ?_
  refine fm_cv S (c_MO_thrown l dC dI mo (nI (2)) fa (nI (n)) ga (nI (1)) (nI (s0)) mr (nI (rn)) ka kw (nI (cn)) ) rfl rfl k_MO_thrown q_3_147 ⟨Nat.le_of_ble_eq_true rfl, Nat.le_of_ble_eq_true rfl⟩ (hP.sub [16] rfl) (hK.sub [] rfl) 0 rfl rfl rfl hl.1 rfl (Nat.le_of_ble_eq_true rfl) hf1 d_LW_law_501 ?_
  refine lv_iload hx hb d_LW_law_504 (lv_at hl 1 rfl) ?_
  refine lv_icmp_eq (tgt := 511) hx hb d_LW_law_506 (by decide) (fun c0 => ?_) (fun c0 => ?_)
  · have c_506 : 2 = 2 := (nI_eq (a := 2) (b := 2) (by omega) (by omega)).mp c0
    refine lv_iload hx hb d_LW_law_511 (lv_at hl 1 rfl) ?_
    refine lv_if_ne (tgt := 528) hx hb d_LW_law_513 (by decide) (fun c0 => ?_) (fun c0 => ?_)
    · have c_513 : ¬ (2 = 0) := fun z => c0 ((nI_eq (a := 2) (b := 0) (by omega) (by omega)).mpr z)
      refine lv_goto (tgt := 801) hx hb d_LW_law_528 (by decide) ?_
      refine W.widen (k := cells + 1) (n := slots + 6) (by omega) (by omega) ?_
      exact k801 _ _ _ ⟨bf, ba, li, pa, va, na, ra, o, wa, sa, la, sp, wb, sb, lb, fa, ga, mr, ka, kw, n, b, rn, rw, 1, ((le)), cn, pd, vl, kn, (nI (fm_HF (fm_RB g) 2)), (nI (fm_HF (fm_RB g) 3)), (nI (s0)), (nI (fm_z s0)), (nI (fm_h s0)), w, st, ln, ((bc2)), ((ec2)), ((sz2)), ((sc2)), ((hv2)), w2, st2, ln2, (nI (2)), f, g, s0, rb, kd, wd, ov, hJ, hP, hD, hS⟩ (lv_sub hl [2, 3, 4, 5, 6] rfl)
    · have c_513 : 2 = 0 := (nI_eq (a := 2) (b := 0) (by omega) (by omega)).mp c0
      exact absurd c_513 (by decide)
  · have c_506 : ¬ (2 = 2) := fun z => c0 ((nI_eq (a := 2) (b := 2) (by omega) (by omega)).mpr z)
    exact absurd c_506 (by decide)
set_option maxHeartbeats 4000000 in
set_option maxRecDepth 100000 in
theorem lc_parameterY {pg : Program} {l : Launch} {ev : Env} {s : State} {m : MethodId} {below : List Frame} {meth : Method} {cd : Code} {ab L : Nat} {xs : Nat → Int32} {dC : Nat → ClassId} {dI : Nat → Nat → Nat} {cI cZ cB cL : ClassId} {Q : State → Prop} {cells slots i4 h mo ou : Nat} (CX : fm_CX pg l s m meth cd ab L xs dC dI cI cZ cB cL) (hc : cells + 1 ≤ 1055 ∧ slots + 6 ≤ 36376) (hi : i4 + 4 ≤ L) (k801 : fm_K8 pg l ev s m ab below meth cd dC dI cI cZ cB cL Q cells slots h mo ou i4) {bf ba li pa va na ra o wa sa la sp wb sb lb fa ga mr ka kw : Nat} {n : Nat} {b : Nat → Int32} {rn : Nat} {rw : Nat → Int32} {le : Int32} {cn : Nat} {pd : Nat → Int32} {vl : Nat → Int32} {kn : Nat → Int32} {w : Nat → Int32} {st : Nat → Int32} {ln : Nat → Int32} {bc2 : Int32} {ec2 : Int32} {sz2 : Int32} {sc2 : Int32} {hv2 : Int32} {w2 : Nat → Int32} {st2 : Nat → Int32} {ln2 : Nat → Int32} {th : Int32} {f : Nat → Int32} {g : Nat → Int32} {s0 : Nat} {rb : Nat → Int32} {kd : Nat → Int32} {wd : Nat → Int32} {ov : Nat → Int64} (hJ : fm_J n b f rn rw rb 1 cn vl kn kd wd g s0 (nI (fm_HF (fm_RB g) 2)) (nI (fm_HF (fm_RB g) 3)) (nI (s0)) (nI (fm_z s0)) (nI (fm_h s0)) w st ln) {H : Heap} {locs : List Loc} {ls : Array Slot} (hP : va_P (dC, dI) classes [(h, .inr (3, [.ref bf, .ref li, .ref ra, .int (nI (rn)), .ref o, .ref sp, .int (nI (1))])), (bf, .inr (0, [.ref ba, .int (nI (n))])), (ba, .inl (cI, 2048, .inl (b))), (li, .inr (2, [.ref pa, .ref va, .ref na, .int (le), .int (nI (cn))])), (pa, .inl (cI, 1066, .inl (pd))), (va, .inl (cI, 1066, .inl (vl))), (na, .inl (cZ, 1066, .inl (kn))), (ra, .inl (cI, 64, .inl (rw))), (o, .inr (1, [.ref wa, .ref sa, .ref la, .int (nI (fm_HF (fm_RB g) 2)), .int (nI (fm_HF (fm_RB g) 3)), .int (nI (s0)), .int (nI (fm_z s0)), .int (nI (fm_h s0))])), (wa, .inl (cI, 2048, .inl (w))), (sa, .inl (cI, 10, .inl (st))), (la, .inl (cI, 10, .inl (ln))), (sp, .inr (1, [.ref wb, .ref sb, .ref lb, .int (bc2), .int (ec2), .int (sz2), .int (sc2), .int (hv2)])), (wb, .inl (cI, 2048, .inl (w2))), (sb, .inl (cI, 10, .inl (st2))), (lb, .inl (cI, 10, .inl (ln2))), (mo, .inr (4, [.int (th), .ref fa, .int (nI (n)), .ref ga, .int (nI (1)), .int (nI (s0)), .ref mr, .int (nI (rn)), .ref ka, .ref kw, .int (nI (cn))])), (fa, .inl (cB, 8192, .inl (f))), (ga, .inl (cB, 8192, .inl (g))), (mr, .inl (cB, 64, .inl (rb))), (ka, .inl (cI, 1100, .inl (kd))), (kw, .inl (cI, 1100, .inl (wd))), (ou, .inl (cL, 1, .inr (.inl (ov))))] H) (hD : va_D (fm_AA s) [(h, .inr (3, [.ref bf, .ref li, .ref ra, .int (nI (rn)), .ref o, .ref sp, .int (nI (1))])), (bf, .inr (0, [.ref ba, .int (nI (n))])), (ba, .inl (cI, 2048, .inl (b))), (li, .inr (2, [.ref pa, .ref va, .ref na, .int (le), .int (nI (cn))])), (pa, .inl (cI, 1066, .inl (pd))), (va, .inl (cI, 1066, .inl (vl))), (na, .inl (cZ, 1066, .inl (kn))), (ra, .inl (cI, 64, .inl (rw))), (o, .inr (1, [.ref wa, .ref sa, .ref la, .int (nI (fm_HF (fm_RB g) 2)), .int (nI (fm_HF (fm_RB g) 3)), .int (nI (s0)), .int (nI (fm_z s0)), .int (nI (fm_h s0))])), (wa, .inl (cI, 2048, .inl (w))), (sa, .inl (cI, 10, .inl (st))), (la, .inl (cI, 10, .inl (ln))), (sp, .inr (1, [.ref wb, .ref sb, .ref lb, .int (bc2), .int (ec2), .int (sz2), .int (sc2), .int (hv2)])), (wb, .inl (cI, 2048, .inl (w2))), (sb, .inl (cI, 10, .inl (st2))), (lb, .inl (cI, 10, .inl (ln2))), (mo, .inr (4, [.int (th), .ref fa, .int (nI (n)), .ref ga, .int (nI (1)), .int (nI (s0)), .ref mr, .int (nI (rn)), .ref ka, .ref kw, .int (nI (cn))])), (fa, .inl (cB, 8192, .inl (f))), (ga, .inl (cB, 8192, .inl (g))), (mr, .inl (cB, 64, .inl (rb))), (ka, .inl (cI, 1100, .inl (kd))), (kw, .inl (cI, 1100, .inl (wd))), (ou, .inl (cL, 1, .inr (.inl (ov))))]) (hS : va_S (fm_AA s) s.heap H locs) (hl : lv_has ls 7 [(4, .int (nI (i4))), (3, .ref ou), (2, .ref mo), (1, .ref h), (0, .ref ab)]) (i : Nat) (hx1 : xs (i4 + 1) = nI i) (hi1 : 0 < i) (hi2 : i ≤ fm_WD (fm_RB g) 9) : W pg l ev room_1 s m #[Value.ref ab] below meth cd H locs cells slots Q (F0 m 475 ls []) := by
  obtain ⟨hl0, C0, hL8, hK, hTh, hNc⟩ := id CX
  obtain ⟨hx, hb, hr, hml, hown, hts, hX, hbl, hlocks, hgv⟩ := id C0
  have hbA : ¬ fm_AA s ab := Nat.not_le.mpr hbl
  have ht : ∀ w ∈ fm_T, w.before #[Value.ref ab] s = true := fun w h => hts w (fm_ofT h).1
  have hown : s.vm.findClass R_LW = some m.cls := hown
  have S : CallFix pg m cd code 7 s #[Value.ref ab] (Cond.initialized R_FM :: fm_T) R_LW := ⟨hx, hb, hml, hown, fun w h => (List.mem_cons.mp h).elim (fun e => by rw [e]; exact ht _ q_1_1) (ht w)⟩
  have hf0 : cells ≤ room_1.cells ∧ slots ≤ room_1.slots := ⟨show cells ≤ 1055 by omega, show slots ≤ 36376 by omega⟩
  have hf1 : cells + 1 ≤ room_1.cells ∧ slots + 6 ≤ room_1.slots := hc
  obtain ⟨j1, j2, j3, j4, j5, j6, j7, j8, j9, j10⟩ := id hJ
  obtain ⟨hF, hV, hs, -, -, -, -, -⟩ := j10 rfl
  have hz := hV.2.2.2.1
  have hLn := hV.1
  refine lv_aload_n hx hb d_LW_law_475 rfl (lv_at hl 3 rfl) ?_
  refine lv_aload_n hx hb d_LW_law_476 rfl (lv_at hl 4 rfl) ?_
  refine lv_iload hx hb d_LW_law_477 (lv_at hl 0 rfl) ?_
  refine lv_iconst (v := nI (1)) hx hb d_LW_law_479 (by decide) ?_
  refine lv_iadd hx hb d_LW_law_480 ?_
  refine fm_tw (z := nI (i4 + 1)) (nI_add _ _) ?_
  refine va_sld hx hb hX hbl hbA hS (vp_in_nI (by omega) (by omega)) d_LW_law_481 ?_
  refine fm_tw (z := nI (i)) (by rw [nI_clamp (by omega)]; exact hx1) ?_
  refine lv_aload_n hx hb d_LW_law_482 rfl (lv_at hl 1 rfl) ?_
  refine fm_wswP S (c_LW_parameterY l dC dI h bf li ra (nI (rn)) o sp wa sa la s0 cI (fm_RB g) w st ln i ou cL ov (hF) (hs) (hi1) (hi2)) rfl rfl k_LW_parameter q_2_237 ⟨Nat.le_of_ble_eq_true rfl, Nat.le_of_ble_eq_true rfl⟩ hP hD hS (hK.sub [0, 3] rfl) [0, 8, 9, 10, 11, 22] (by decide) (by decide) rfl rfl hl.1 rfl (Nat.le_of_ble_eq_true rfl) hf0 d_LW_law_483 rfl (fun H locs hP hD hS => ?_)
  have hP : va_P (dC, dI) classes [(h, .inr (3, [.ref bf, .ref li, .ref ra, .int (nI (rn)), .ref o, .ref sp, .int (nI (1))])), (bf, .inr (0, [.ref ba, .int (nI (n))])), (ba, .inl (cI, 2048, .inl (b))), (li, .inr (2, [.ref pa, .ref va, .ref na, .int (le), .int (nI (cn))])), (pa, .inl (cI, 1066, .inl (pd))), (va, .inl (cI, 1066, .inl (vl))), (na, .inl (cZ, 1066, .inl (kn))), (ra, .inl (cI, 64, .inl (rw))), (o, .inr (1, [.ref wa, .ref sa, .ref la, .int (nI (fm_HF (fm_RB g) 2)), .int (nI (fm_HF (fm_RB g) 3)), .int (nI (s0)), .int (nI (fm_z s0)), .int (nI (fm_h s0))])), (wa, .inl (cI, 2048, .inl (w))), (sa, .inl (cI, 10, .inl (st))), (la, .inl (cI, 10, .inl (ln))), (sp, .inr (1, [.ref wb, .ref sb, .ref lb, .int (bc2), .int (ec2), .int (sz2), .int (sc2), .int (hv2)])), (wb, .inl (cI, 2048, .inl (w2))), (sb, .inl (cI, 10, .inl (st2))), (lb, .inl (cI, 10, .inl (ln2))), (mo, .inr (4, [.int (th), .ref fa, .int (nI (n)), .ref ga, .int (nI (1)), .int (nI (s0)), .ref mr, .int (nI (rn)), .ref ka, .ref kw, .int (nI (cn))])), (fa, .inl (cB, 8192, .inl (f))), (ga, .inl (cB, 8192, .inl (g))), (mr, .inl (cB, 64, .inl (rb))), (ka, .inl (cI, 1100, .inl (kd))), (kw, .inl (cI, 1100, .inl (wd))), (ou, .inl (cL, 1, .inr (.inl (vp_updL ov 0 ((fm_par (fm_RB g) s0 i).toInt64)))))] _ := hP
  have hD : va_D (fm_AA s) [(h, .inr (3, [.ref bf, .ref li, .ref ra, .int (nI (rn)), .ref o, .ref sp, .int (nI (1))])), (bf, .inr (0, [.ref ba, .int (nI (n))])), (ba, .inl (cI, 2048, .inl (b))), (li, .inr (2, [.ref pa, .ref va, .ref na, .int (le), .int (nI (cn))])), (pa, .inl (cI, 1066, .inl (pd))), (va, .inl (cI, 1066, .inl (vl))), (na, .inl (cZ, 1066, .inl (kn))), (ra, .inl (cI, 64, .inl (rw))), (o, .inr (1, [.ref wa, .ref sa, .ref la, .int (nI (fm_HF (fm_RB g) 2)), .int (nI (fm_HF (fm_RB g) 3)), .int (nI (s0)), .int (nI (fm_z s0)), .int (nI (fm_h s0))])), (wa, .inl (cI, 2048, .inl (w))), (sa, .inl (cI, 10, .inl (st))), (la, .inl (cI, 10, .inl (ln))), (sp, .inr (1, [.ref wb, .ref sb, .ref lb, .int (bc2), .int (ec2), .int (sz2), .int (sc2), .int (hv2)])), (wb, .inl (cI, 2048, .inl (w2))), (sb, .inl (cI, 10, .inl (st2))), (lb, .inl (cI, 10, .inl (ln2))), (mo, .inr (4, [.int (th), .ref fa, .int (nI (n)), .ref ga, .int (nI (1)), .int (nI (s0)), .ref mr, .int (nI (rn)), .ref ka, .ref kw, .int (nI (cn))])), (fa, .inl (cB, 8192, .inl (f))), (ga, .inl (cB, 8192, .inl (g))), (mr, .inl (cB, 64, .inl (rb))), (ka, .inl (cI, 1100, .inl (kd))), (kw, .inl (cI, 1100, .inl (wd))), (ou, .inl (cL, 1, .inr (.inl (vp_updL ov 0 ((fm_par (fm_RB g) s0 i).toInt64)))))] := hD
  refine lv_istore (lv' := [(5, .int (nI (0))), (4, .int (nI (i4))), (3, .ref ou), (2, .ref mo), (1, .ref h), (0, .ref ab)]) hx hb d_LW_law_486 hl (by decide) rfl (fun ls hl => ?_)
  refine lv_aload_n hx hb d_LW_law_488 rfl (lv_at hl 3 rfl) ?_
  refine lv_aload_n hx hb d_LW_law_489 rfl (lv_at hl 5 rfl) ?_
  refine lv_iload hx hb d_LW_law_490 (lv_at hl 1 rfl) ?_
  refine lv_iconst (v := nI (1)) hx hb d_LW_law_492 (by decide) ?_
  refine lv_iadd hx hb d_LW_law_493 ?_
  refine fm_tw (z := nI (i4 + 1)) (nI_add _ _) ?_
  refine va_sld hx hb hX hbl hbA hS (vp_in_nI (by omega) (by omega)) d_LW_law_494 ?_
  refine fm_tw (z := nI (i)) (by rw [nI_clamp (by omega)]; exact hx1) ?_
  refine fm_wvP S (c_MO_parameterY l dC dI mo th fa (nI (n)) ga mr (nI (rn)) ka kw (nI (cn)) s0 cB g i (hLn) (hs) (hi1) (hi2)) rfl rfl k_MO_parameter q_4_18 ⟨Nat.le_of_ble_eq_true rfl, Nat.le_of_ble_eq_true rfl⟩ hP hD hS (hK.sub [2] rfl) [16, 18] (by decide) (by decide) rfl 0 rfl rfl rfl hl.1 rfl (Nat.le_of_ble_eq_true rfl) hf0 d_LW_law_495 rfl (fun H locs hP hD hS => ?_)
  have hP : va_P (dC, dI) classes [(h, .inr (3, [.ref bf, .ref li, .ref ra, .int (nI (rn)), .ref o, .ref sp, .int (nI (1))])), (bf, .inr (0, [.ref ba, .int (nI (n))])), (ba, .inl (cI, 2048, .inl (b))), (li, .inr (2, [.ref pa, .ref va, .ref na, .int (le), .int (nI (cn))])), (pa, .inl (cI, 1066, .inl (pd))), (va, .inl (cI, 1066, .inl (vl))), (na, .inl (cZ, 1066, .inl (kn))), (ra, .inl (cI, 64, .inl (rw))), (o, .inr (1, [.ref wa, .ref sa, .ref la, .int (nI (fm_HF (fm_RB g) 2)), .int (nI (fm_HF (fm_RB g) 3)), .int (nI (s0)), .int (nI (fm_z s0)), .int (nI (fm_h s0))])), (wa, .inl (cI, 2048, .inl (w))), (sa, .inl (cI, 10, .inl (st))), (la, .inl (cI, 10, .inl (ln))), (sp, .inr (1, [.ref wb, .ref sb, .ref lb, .int (bc2), .int (ec2), .int (sz2), .int (sc2), .int (hv2)])), (wb, .inl (cI, 2048, .inl (w2))), (sb, .inl (cI, 10, .inl (st2))), (lb, .inl (cI, 10, .inl (ln2))), (mo, .inr (4, [.int (nI (0)), .ref fa, .int (nI (n)), .ref ga, .int (nI (1)), .int (nI (s0)), .ref mr, .int (nI (rn)), .ref ka, .ref kw, .int (nI (cn))])), (fa, .inl (cB, 8192, .inl (f))), (ga, .inl (cB, 8192, .inl (g))), (mr, .inl (cB, 64, .inl (rb))), (ka, .inl (cI, 1100, .inl (kd))), (kw, .inl (cI, 1100, .inl (wd))), (ou, .inl (cL, 1, .inr (.inl (vp_updL ov 0 ((fm_par (fm_RB g) s0 i).toInt64)))))] _ := hP
  have hD : va_D (fm_AA s) [(h, .inr (3, [.ref bf, .ref li, .ref ra, .int (nI (rn)), .ref o, .ref sp, .int (nI (1))])), (bf, .inr (0, [.ref ba, .int (nI (n))])), (ba, .inl (cI, 2048, .inl (b))), (li, .inr (2, [.ref pa, .ref va, .ref na, .int (le), .int (nI (cn))])), (pa, .inl (cI, 1066, .inl (pd))), (va, .inl (cI, 1066, .inl (vl))), (na, .inl (cZ, 1066, .inl (kn))), (ra, .inl (cI, 64, .inl (rw))), (o, .inr (1, [.ref wa, .ref sa, .ref la, .int (nI (fm_HF (fm_RB g) 2)), .int (nI (fm_HF (fm_RB g) 3)), .int (nI (s0)), .int (nI (fm_z s0)), .int (nI (fm_h s0))])), (wa, .inl (cI, 2048, .inl (w))), (sa, .inl (cI, 10, .inl (st))), (la, .inl (cI, 10, .inl (ln))), (sp, .inr (1, [.ref wb, .ref sb, .ref lb, .int (bc2), .int (ec2), .int (sz2), .int (sc2), .int (hv2)])), (wb, .inl (cI, 2048, .inl (w2))), (sb, .inl (cI, 10, .inl (st2))), (lb, .inl (cI, 10, .inl (ln2))), (mo, .inr (4, [.int (nI (0)), .ref fa, .int (nI (n)), .ref ga, .int (nI (1)), .int (nI (s0)), .ref mr, .int (nI (rn)), .ref ka, .ref kw, .int (nI (cn))])), (fa, .inl (cB, 8192, .inl (f))), (ga, .inl (cB, 8192, .inl (g))), (mr, .inl (cB, 64, .inl (rb))), (ka, .inl (cI, 1100, .inl (kd))), (kw, .inl (cI, 1100, .inl (wd))), (ou, .inl (cL, 1, .inr (.inl (vp_updL ov 0 ((fm_par (fm_RB g) s0 i).toInt64)))))] := hD
  refine lv_istore (lv' := [(6, .int (fm_par (fm_RB g) s0 i)), (5, .int (nI (0))), (4, .int (nI (i4))), (3, .ref ou), (2, .ref mo), (1, .ref h), (0, .ref ab)]) hx hb d_LW_law_498 hl (by decide) rfl (fun ls hl => ?_)
  refine lv_aload_n hx hb d_LW_law_500 rfl (lv_at hl 4 rfl) ?_
  refine fm_cv S (c_MO_thrown l dC dI mo (nI (0)) fa (nI (n)) ga (nI (1)) (nI (s0)) mr (nI (rn)) ka kw (nI (cn)) ) rfl rfl k_MO_thrown q_3_147 ⟨Nat.le_of_ble_eq_true rfl, Nat.le_of_ble_eq_true rfl⟩ (hP.sub [16] rfl) (hK.sub [] rfl) 0 rfl rfl rfl hl.1 rfl (Nat.le_of_ble_eq_true rfl) hf0 d_LW_law_501 ?_
  refine lv_iload hx hb d_LW_law_504 (lv_at hl 1 rfl) ?_
  refine lv_icmp_eq (tgt := 511) hx hb d_LW_law_506 (by decide) (fun c0 => ?_) (fun c0 => ?_)
  · have c_506 : 0 = 0 := (nI_eq (a := 0) (b := 0) (by omega) (by omega)).mp c0
    refine lv_iload hx hb d_LW_law_511 (lv_at hl 1 rfl) ?_
    refine lv_if_ne (tgt := 528) hx hb d_LW_law_513 (by decide) (fun c0 => ?_) (fun c0 => ?_)
    · have c_513 : ¬ (0 = 0) := fun z => c0 ((nI_eq (a := 0) (b := 0) (by omega) (by omega)).mpr z)
      exact absurd c_513 (by decide)
    · have c_513 : 0 = 0 := (nI_eq (a := 0) (b := 0) (by omega) (by omega)).mp c0
      refine lv_aload_n hx hb d_LW_law_516 rfl (lv_at hl 3 rfl) ?_
      refine lv_iconst (v := nI (0)) hx hb d_LW_law_517 (by decide) ?_
      refine va_lald hx hb hK hP 22 3 rfl rfl (vp_in_nI (by decide) (by decide)) d_LW_law_518 ?_
      refine fm_twl (z := (fm_par (fm_RB g) s0 i).toInt64) (by rw [nI_clamp (by decide)]; exact fm_updL0 _ _) ?_
      refine lv_iload hx hb d_LW_law_519 (lv_at hl 0 rfl) ?_
      refine lv_i2l (v := ((fm_par (fm_RB g) s0 i)).toInt64) hx hb d_LW_law_521 rfl ?_
      refine W.lcmp hx hb d_LW_law_522 ?_
      refine lv_if_eq (tgt := 528) hx hb d_LW_law_523 (by decide) (fun c0 => ?_) (fun c0 => ?_)
      · have c_523 := c0
        refine lv_goto (tgt := 801) hx hb d_LW_law_528 (by decide) ?_
        refine W.widen (k := cells + 1) (n := slots + 6) (by omega) (by omega) ?_
        exact k801 _ _ _ ⟨bf, ba, li, pa, va, na, ra, o, wa, sa, la, sp, wb, sb, lb, fa, ga, mr, ka, kw, n, b, rn, rw, 1, ((le)), cn, pd, vl, kn, (nI (fm_HF (fm_RB g) 2)), (nI (fm_HF (fm_RB g) 3)), (nI (s0)), (nI (fm_z s0)), (nI (fm_h s0)), w, st, ln, ((bc2)), ((ec2)), ((sz2)), ((sc2)), ((hv2)), w2, st2, ln2, (nI (0)), f, g, s0, rb, kd, wd, (vp_updL ov 0 ((fm_par (fm_RB g) s0 i).toInt64)), hJ, hP, hD, hS⟩ (lv_sub hl [2, 3, 4, 5, 6] rfl)
      · have c_523 := c0
        exact absurd (fm_lcmp0 _) c_523
  · have c_506 : ¬ (0 = 0) := fun z => c0 ((nI_eq (a := 0) (b := 0) (by omega) (by omega)).mpr z)
    exact absurd c_506 (by decide)
set_option maxHeartbeats 4000000 in
set_option maxRecDepth 100000 in
theorem lc_askN1 {pg : Program} {l : Launch} {ev : Env} {s : State} {m : MethodId} {below : List Frame} {meth : Method} {cd : Code} {ab L : Nat} {xs : Nat → Int32} {dC : Nat → ClassId} {dI : Nat → Nat → Nat} {cI cZ cB cL : ClassId} {Q : State → Prop} {cells slots i4 h mo ou : Nat} (CX : fm_CX pg l s m meth cd ab L xs dC dI cI cZ cB cL) (hc : cells + 1 ≤ 1055 ∧ slots + 6 ≤ 36376) (hi : i4 + 4 ≤ L) (k801 : fm_K8 pg l ev s m ab below meth cd dC dI cI cZ cB cL Q cells slots h mo ou i4) {bf ba li pa va na ra o wa sa la sp wb sb lb fa ga mr ka kw : Nat} {n : Nat} {b : Nat → Int32} {rn : Nat} {rw : Nat → Int32} {le : Int32} {cn : Nat} {pd : Nat → Int32} {vl : Nat → Int32} {kn : Nat → Int32} {w : Nat → Int32} {st : Nat → Int32} {ln : Nat → Int32} {bc2 : Int32} {ec2 : Int32} {sz2 : Int32} {sc2 : Int32} {hv2 : Int32} {w2 : Nat → Int32} {st2 : Nat → Int32} {ln2 : Nat → Int32} {th : Int32} {f : Nat → Int32} {g : Nat → Int32} {s0 : Nat} {rb : Nat → Int32} {kd : Nat → Int32} {wd : Nat → Int32} {ov : Nat → Int64} (hJ : fm_J n b f rn rw rb 1 cn vl kn kd wd g s0 (nI (fm_HF (fm_RB g) 2)) (nI (fm_HF (fm_RB g) 3)) (nI (s0)) (nI (fm_z s0)) (nI (fm_h s0)) w st ln) {H : Heap} {locs : List Loc} {ls : Array Slot} (hP : va_P (dC, dI) classes [(h, .inr (3, [.ref bf, .ref li, .ref ra, .int (nI (rn)), .ref o, .ref sp, .int (nI (1))])), (bf, .inr (0, [.ref ba, .int (nI (n))])), (ba, .inl (cI, 2048, .inl (b))), (li, .inr (2, [.ref pa, .ref va, .ref na, .int (le), .int (nI (cn))])), (pa, .inl (cI, 1066, .inl (pd))), (va, .inl (cI, 1066, .inl (vl))), (na, .inl (cZ, 1066, .inl (kn))), (ra, .inl (cI, 64, .inl (rw))), (o, .inr (1, [.ref wa, .ref sa, .ref la, .int (nI (fm_HF (fm_RB g) 2)), .int (nI (fm_HF (fm_RB g) 3)), .int (nI (s0)), .int (nI (fm_z s0)), .int (nI (fm_h s0))])), (wa, .inl (cI, 2048, .inl (w))), (sa, .inl (cI, 10, .inl (st))), (la, .inl (cI, 10, .inl (ln))), (sp, .inr (1, [.ref wb, .ref sb, .ref lb, .int (bc2), .int (ec2), .int (sz2), .int (sc2), .int (hv2)])), (wb, .inl (cI, 2048, .inl (w2))), (sb, .inl (cI, 10, .inl (st2))), (lb, .inl (cI, 10, .inl (ln2))), (mo, .inr (4, [.int (th), .ref fa, .int (nI (n)), .ref ga, .int (nI (1)), .int (nI (s0)), .ref mr, .int (nI (rn)), .ref ka, .ref kw, .int (nI (cn))])), (fa, .inl (cB, 8192, .inl (f))), (ga, .inl (cB, 8192, .inl (g))), (mr, .inl (cB, 64, .inl (rb))), (ka, .inl (cI, 1100, .inl (kd))), (kw, .inl (cI, 1100, .inl (wd))), (ou, .inl (cL, 1, .inr (.inl (ov))))] H) (hD : va_D (fm_AA s) [(h, .inr (3, [.ref bf, .ref li, .ref ra, .int (nI (rn)), .ref o, .ref sp, .int (nI (1))])), (bf, .inr (0, [.ref ba, .int (nI (n))])), (ba, .inl (cI, 2048, .inl (b))), (li, .inr (2, [.ref pa, .ref va, .ref na, .int (le), .int (nI (cn))])), (pa, .inl (cI, 1066, .inl (pd))), (va, .inl (cI, 1066, .inl (vl))), (na, .inl (cZ, 1066, .inl (kn))), (ra, .inl (cI, 64, .inl (rw))), (o, .inr (1, [.ref wa, .ref sa, .ref la, .int (nI (fm_HF (fm_RB g) 2)), .int (nI (fm_HF (fm_RB g) 3)), .int (nI (s0)), .int (nI (fm_z s0)), .int (nI (fm_h s0))])), (wa, .inl (cI, 2048, .inl (w))), (sa, .inl (cI, 10, .inl (st))), (la, .inl (cI, 10, .inl (ln))), (sp, .inr (1, [.ref wb, .ref sb, .ref lb, .int (bc2), .int (ec2), .int (sz2), .int (sc2), .int (hv2)])), (wb, .inl (cI, 2048, .inl (w2))), (sb, .inl (cI, 10, .inl (st2))), (lb, .inl (cI, 10, .inl (ln2))), (mo, .inr (4, [.int (th), .ref fa, .int (nI (n)), .ref ga, .int (nI (1)), .int (nI (s0)), .ref mr, .int (nI (rn)), .ref ka, .ref kw, .int (nI (cn))])), (fa, .inl (cB, 8192, .inl (f))), (ga, .inl (cB, 8192, .inl (g))), (mr, .inl (cB, 64, .inl (rb))), (ka, .inl (cI, 1100, .inl (kd))), (kw, .inl (cI, 1100, .inl (wd))), (ou, .inl (cL, 1, .inr (.inl (ov))))]) (hS : va_S (fm_AA s) s.heap H locs) (hl : lv_has ls 7 [(4, .int (nI (i4))), (3, .ref ou), (2, .ref mo), (1, .ref h), (0, .ref ab)]) (x1 : Int32) (x2 : Int32) (hx1 : xs (i4 + 1) = x1) (hx2 : xs (i4 + 2) = x2) (hne : x1 ≠ nI 256) (hno : fm_thI (fm_RB g) x1 = false) : W pg l ev room_1 s m #[Value.ref ab] below meth cd H locs cells slots Q (F0 m 531 ls []) := by
  obtain ⟨hl0, C0, hL8, hK, hTh, hNc⟩ := id CX
  obtain ⟨hx, hb, hr, hml, hown, hts, hX, hbl, hlocks, hgv⟩ := id C0
  have hbA : ¬ fm_AA s ab := Nat.not_le.mpr hbl
  have ht : ∀ w ∈ fm_T, w.before #[Value.ref ab] s = true := fun w h => hts w (fm_ofT h).1
  have hown : s.vm.findClass R_LW = some m.cls := hown
  have S : CallFix pg m cd code 7 s #[Value.ref ab] (Cond.initialized R_FM :: fm_T) R_LW := ⟨hx, hb, hml, hown, fun w h => (List.mem_cons.mp h).elim (fun e => by rw [e]; exact ht _ q_1_1) (ht w)⟩
  have hf0 : cells ≤ room_1.cells ∧ slots ≤ room_1.slots := ⟨show cells ≤ 1055 by omega, show slots ≤ 36376 by omega⟩
  have hf1 : cells + 1 ≤ room_1.cells ∧ slots + 6 ≤ room_1.slots := hc
  obtain ⟨j1, j2, j3, j4, j5, j6, j7, j8, j9, j10⟩ := id hJ
  obtain ⟨hF, hV, hs, -, -, -, -, -⟩ := j10 rfl
  have hz := hV.2.2.2.1
  have hLn := hV.1
  refine lv_aload_n hx hb d_LW_law_531 rfl (lv_at hl 3 rfl) ?_
  refine lv_aload_n hx hb d_LW_law_532 rfl (lv_at hl 4 rfl) ?_
  refine lv_iload hx hb d_LW_law_533 (lv_at hl 0 rfl) ?_
  refine lv_iconst (v := nI (1)) hx hb d_LW_law_535 (by decide) ?_
  refine lv_iadd hx hb d_LW_law_536 ?_
  refine fm_tw (z := nI (i4 + 1)) (nI_add _ _) ?_
  refine va_sld hx hb hX hbl hbA hS (vp_in_nI (by omega) (by omega)) d_LW_law_537 ?_
  refine fm_tw (z := (x1)) (by rw [nI_clamp (by omega)]; exact hx1) ?_
  refine lv_aload_n hx hb d_LW_law_538 rfl (lv_at hl 4 rfl) ?_
  refine lv_iload hx hb d_LW_law_539 (lv_at hl 0 rfl) ?_
  refine lv_iconst (v := nI (2)) hx hb d_LW_law_541 (by decide) ?_
  refine lv_iadd hx hb d_LW_law_542 ?_
  refine fm_tw (z := nI (i4 + 2)) (nI_add _ _) ?_
  refine va_sld hx hb hX hbl hbA hS (vp_in_nI (by omega) (by omega)) d_LW_law_543 ?_
  refine fm_tw (z := (x2)) (by rw [nI_clamp (by omega)]; exact hx2) ?_
  refine lv_aload_n hx hb d_LW_law_544 rfl (lv_at hl 1 rfl) ?_
  refine fm_csw S (x_LW_askN1 l hl0 dC dI h bf li ra (nI (rn)) o sp wa sa la s0 cI (fm_RB g) w st ln x1 x2 ou (hF) (hne) (hno)) rfl rfl k_LW_ask q_3_6 ⟨Nat.le_of_ble_eq_true rfl, Nat.le_of_ble_eq_true rfl⟩ hP hS (hK.sub [0] rfl) (hTh _ _ hS) hNc [0, 8, 9, 10, 11] rfl rfl hl.1 rfl (Nat.le_of_ble_eq_true rfl) hf1 d_LW_law_545 (fun H hz9 hk9 hP hS => ?_)
  refine lv_istore (lv' := [(5, .int (nI (2))), (4, .int (nI (i4))), (3, .ref ou), (2, .ref mo), (1, .ref h), (0, .ref ab)]) hx hb d_LW_law_548 hl (by decide) rfl (fun ls hl => ?_)
  refine lv_aload_n hx hb d_LW_law_550 rfl (lv_at hl 3 rfl) ?_
  refine lv_aload_n hx hb d_LW_law_551 rfl (lv_at hl 5 rfl) ?_
  refine lv_iload hx hb d_LW_law_552 (lv_at hl 1 rfl) ?_
  refine lv_iconst (v := nI (1)) hx hb d_LW_law_554 (by decide) ?_
  refine lv_iadd hx hb d_LW_law_555 ?_
  refine fm_tw (z := nI (i4 + 1)) (nI_add _ _) ?_
  refine va_sld hx hb hX hbl hbA hS (vp_in_nI (by omega) (by omega)) d_LW_law_556 ?_
  refine fm_tw (z := (x1)) (by rw [nI_clamp (by omega)]; exact hx1) ?_
  refine lv_aload_n hx hb d_LW_law_557 rfl (lv_at hl 5 rfl) ?_
  refine lv_iload hx hb d_LW_law_558 (lv_at hl 1 rfl) ?_
  refine lv_iconst (v := nI (2)) hx hb d_LW_law_560 (by decide) ?_
  refine lv_iadd hx hb d_LW_law_561 ?_
  refine fm_tw (z := nI (i4 + 2)) (nI_add _ _) ?_
  refine va_sld hx hb hX hbl hbA hS (vp_in_nI (by omega) (by omega)) d_LW_law_562 ?_
  refine fm_tw (z := (x2)) (by rw [nI_clamp (by omega)]; exact hx2) ?_
  refine fm_wvP S (c_MO_askN l dC dI mo th fa (nI (n)) ga mr (nI (rn)) ka kw (nI (cn)) s0 cB g x1 x2 (hLn) (Or.inl (by rw [hno, decide_eq_false hne]; rfl))) rfl rfl k_MO_ask q_4_22 ⟨Nat.le_of_ble_eq_true rfl, Nat.le_of_ble_eq_true rfl⟩ hP hD hS (hK.sub [2] rfl) [16, 18] (by decide) (by decide) rfl 0 rfl rfl rfl hl.1 rfl (Nat.le_of_ble_eq_true rfl) hf1 d_LW_law_563 rfl (fun H locs hP hD hS => ?_)
  have hP : va_P (dC, dI) classes [(h, .inr (3, [.ref bf, .ref li, .ref ra, .int (nI (rn)), .ref o, .ref sp, .int (nI (1))])), (bf, .inr (0, [.ref ba, .int (nI (n))])), (ba, .inl (cI, 2048, .inl (b))), (li, .inr (2, [.ref pa, .ref va, .ref na, .int (le), .int (nI (cn))])), (pa, .inl (cI, 1066, .inl (pd))), (va, .inl (cI, 1066, .inl (vl))), (na, .inl (cZ, 1066, .inl (kn))), (ra, .inl (cI, 64, .inl (rw))), (o, .inr (1, [.ref wa, .ref sa, .ref la, .int (nI (fm_HF (fm_RB g) 2)), .int (nI (fm_HF (fm_RB g) 3)), .int (nI (s0)), .int (nI (fm_z s0)), .int (nI (fm_h s0))])), (wa, .inl (cI, 2048, .inl (w))), (sa, .inl (cI, 10, .inl (st))), (la, .inl (cI, 10, .inl (ln))), (sp, .inr (1, [.ref wb, .ref sb, .ref lb, .int (bc2), .int (ec2), .int (sz2), .int (sc2), .int (hv2)])), (wb, .inl (cI, 2048, .inl (w2))), (sb, .inl (cI, 10, .inl (st2))), (lb, .inl (cI, 10, .inl (ln2))), (mo, .inr (4, [.int (nI (2)), .ref fa, .int (nI (n)), .ref ga, .int (nI (1)), .int (nI (s0)), .ref mr, .int (nI (rn)), .ref ka, .ref kw, .int (nI (cn))])), (fa, .inl (cB, 8192, .inl (f))), (ga, .inl (cB, 8192, .inl (g))), (mr, .inl (cB, 64, .inl (rb))), (ka, .inl (cI, 1100, .inl (kd))), (kw, .inl (cI, 1100, .inl (wd))), (ou, .inl (cL, 1, .inr (.inl (ov))))] _ := hP
  have hD : va_D (fm_AA s) [(h, .inr (3, [.ref bf, .ref li, .ref ra, .int (nI (rn)), .ref o, .ref sp, .int (nI (1))])), (bf, .inr (0, [.ref ba, .int (nI (n))])), (ba, .inl (cI, 2048, .inl (b))), (li, .inr (2, [.ref pa, .ref va, .ref na, .int (le), .int (nI (cn))])), (pa, .inl (cI, 1066, .inl (pd))), (va, .inl (cI, 1066, .inl (vl))), (na, .inl (cZ, 1066, .inl (kn))), (ra, .inl (cI, 64, .inl (rw))), (o, .inr (1, [.ref wa, .ref sa, .ref la, .int (nI (fm_HF (fm_RB g) 2)), .int (nI (fm_HF (fm_RB g) 3)), .int (nI (s0)), .int (nI (fm_z s0)), .int (nI (fm_h s0))])), (wa, .inl (cI, 2048, .inl (w))), (sa, .inl (cI, 10, .inl (st))), (la, .inl (cI, 10, .inl (ln))), (sp, .inr (1, [.ref wb, .ref sb, .ref lb, .int (bc2), .int (ec2), .int (sz2), .int (sc2), .int (hv2)])), (wb, .inl (cI, 2048, .inl (w2))), (sb, .inl (cI, 10, .inl (st2))), (lb, .inl (cI, 10, .inl (ln2))), (mo, .inr (4, [.int (nI (2)), .ref fa, .int (nI (n)), .ref ga, .int (nI (1)), .int (nI (s0)), .ref mr, .int (nI (rn)), .ref ka, .ref kw, .int (nI (cn))])), (fa, .inl (cB, 8192, .inl (f))), (ga, .inl (cB, 8192, .inl (g))), (mr, .inl (cB, 64, .inl (rb))), (ka, .inl (cI, 1100, .inl (kd))), (kw, .inl (cI, 1100, .inl (wd))), (ou, .inl (cL, 1, .inr (.inl (ov))))] := hD
  refine lv_istore (lv' := [(6, .int (nI (0))), (5, .int (nI (2))), (4, .int (nI (i4))), (3, .ref ou), (2, .ref mo), (1, .ref h), (0, .ref ab)]) hx hb d_LW_law_566 hl (by decide) rfl (fun ls hl => ?_)
  refine lv_aload_n hx hb d_LW_law_568 rfl (lv_at hl 4 rfl) ?_
  refine fm_cv S (c_MO_thrown l dC dI mo (nI (2)) fa (nI (n)) ga (nI (1)) (nI (s0)) mr (nI (rn)) ka kw (nI (cn)) ) rfl rfl k_MO_thrown q_3_147 ⟨Nat.le_of_ble_eq_true rfl, Nat.le_of_ble_eq_true rfl⟩ (hP.sub [16] rfl) (hK.sub [] rfl) 0 rfl rfl rfl hl.1 rfl (Nat.le_of_ble_eq_true rfl) hf1 d_LW_law_569 ?_
  refine lv_iload hx hb d_LW_law_572 (lv_at hl 1 rfl) ?_
  refine lv_icmp_eq (tgt := 579) hx hb d_LW_law_574 (by decide) (fun c0 => ?_) (fun c0 => ?_)
  · have c_574 : 2 = 2 := (nI_eq (a := 2) (b := 2) (by omega) (by omega)).mp c0
    refine lv_iload hx hb d_LW_law_579 (lv_at hl 1 rfl) ?_
    refine lv_if_ne (tgt := 596) hx hb d_LW_law_581 (by decide) (fun c0 => ?_) (fun c0 => ?_)
    · have c_581 : ¬ (2 = 0) := fun z => c0 ((nI_eq (a := 2) (b := 0) (by omega) (by omega)).mpr z)
      refine lv_goto (tgt := 801) hx hb d_LW_law_596 (by decide) ?_
      refine W.widen (k := cells + 1) (n := slots + 6) (by omega) (by omega) ?_
      exact k801 _ _ _ ⟨bf, ba, li, pa, va, na, ra, o, wa, sa, la, sp, wb, sb, lb, fa, ga, mr, ka, kw, n, b, rn, rw, 1, ((le)), cn, pd, vl, kn, (nI (fm_HF (fm_RB g) 2)), (nI (fm_HF (fm_RB g) 3)), (nI (s0)), (nI (fm_z s0)), (nI (fm_h s0)), w, st, ln, ((bc2)), ((ec2)), ((sz2)), ((sc2)), ((hv2)), w2, st2, ln2, (nI (2)), f, g, s0, rb, kd, wd, ov, hJ, hP, hD, hS⟩ (lv_sub hl [2, 3, 4, 5, 6] rfl)
    · have c_581 : 2 = 0 := (nI_eq (a := 2) (b := 0) (by omega) (by omega)).mp c0
      exact absurd c_581 (by decide)
  · have c_574 : ¬ (2 = 2) := fun z => c0 ((nI_eq (a := 2) (b := 2) (by omega) (by omega)).mpr z)
    exact absurd c_574 (by decide)
set_option maxHeartbeats 4000000 in
set_option maxRecDepth 100000 in
theorem lc_askN2 {pg : Program} {l : Launch} {ev : Env} {s : State} {m : MethodId} {below : List Frame} {meth : Method} {cd : Code} {ab L : Nat} {xs : Nat → Int32} {dC : Nat → ClassId} {dI : Nat → Nat → Nat} {cI cZ cB cL : ClassId} {Q : State → Prop} {cells slots i4 h mo ou : Nat} (CX : fm_CX pg l s m meth cd ab L xs dC dI cI cZ cB cL) (hc : cells + 1 ≤ 1055 ∧ slots + 6 ≤ 36376) (hi : i4 + 4 ≤ L) (k801 : fm_K8 pg l ev s m ab below meth cd dC dI cI cZ cB cL Q cells slots h mo ou i4) {bf ba li pa va na ra o wa sa la sp wb sb lb fa ga mr ka kw : Nat} {n : Nat} {b : Nat → Int32} {rn : Nat} {rw : Nat → Int32} {le : Int32} {cn : Nat} {pd : Nat → Int32} {vl : Nat → Int32} {kn : Nat → Int32} {w : Nat → Int32} {st : Nat → Int32} {ln : Nat → Int32} {bc2 : Int32} {ec2 : Int32} {sz2 : Int32} {sc2 : Int32} {hv2 : Int32} {w2 : Nat → Int32} {st2 : Nat → Int32} {ln2 : Nat → Int32} {th : Int32} {f : Nat → Int32} {g : Nat → Int32} {s0 : Nat} {rb : Nat → Int32} {kd : Nat → Int32} {wd : Nat → Int32} {ov : Nat → Int64} (hJ : fm_J n b f rn rw rb 1 cn vl kn kd wd g s0 (nI (fm_HF (fm_RB g) 2)) (nI (fm_HF (fm_RB g) 3)) (nI (s0)) (nI (fm_z s0)) (nI (fm_h s0)) w st ln) {H : Heap} {locs : List Loc} {ls : Array Slot} (hP : va_P (dC, dI) classes [(h, .inr (3, [.ref bf, .ref li, .ref ra, .int (nI (rn)), .ref o, .ref sp, .int (nI (1))])), (bf, .inr (0, [.ref ba, .int (nI (n))])), (ba, .inl (cI, 2048, .inl (b))), (li, .inr (2, [.ref pa, .ref va, .ref na, .int (le), .int (nI (cn))])), (pa, .inl (cI, 1066, .inl (pd))), (va, .inl (cI, 1066, .inl (vl))), (na, .inl (cZ, 1066, .inl (kn))), (ra, .inl (cI, 64, .inl (rw))), (o, .inr (1, [.ref wa, .ref sa, .ref la, .int (nI (fm_HF (fm_RB g) 2)), .int (nI (fm_HF (fm_RB g) 3)), .int (nI (s0)), .int (nI (fm_z s0)), .int (nI (fm_h s0))])), (wa, .inl (cI, 2048, .inl (w))), (sa, .inl (cI, 10, .inl (st))), (la, .inl (cI, 10, .inl (ln))), (sp, .inr (1, [.ref wb, .ref sb, .ref lb, .int (bc2), .int (ec2), .int (sz2), .int (sc2), .int (hv2)])), (wb, .inl (cI, 2048, .inl (w2))), (sb, .inl (cI, 10, .inl (st2))), (lb, .inl (cI, 10, .inl (ln2))), (mo, .inr (4, [.int (th), .ref fa, .int (nI (n)), .ref ga, .int (nI (1)), .int (nI (s0)), .ref mr, .int (nI (rn)), .ref ka, .ref kw, .int (nI (cn))])), (fa, .inl (cB, 8192, .inl (f))), (ga, .inl (cB, 8192, .inl (g))), (mr, .inl (cB, 64, .inl (rb))), (ka, .inl (cI, 1100, .inl (kd))), (kw, .inl (cI, 1100, .inl (wd))), (ou, .inl (cL, 1, .inr (.inl (ov))))] H) (hD : va_D (fm_AA s) [(h, .inr (3, [.ref bf, .ref li, .ref ra, .int (nI (rn)), .ref o, .ref sp, .int (nI (1))])), (bf, .inr (0, [.ref ba, .int (nI (n))])), (ba, .inl (cI, 2048, .inl (b))), (li, .inr (2, [.ref pa, .ref va, .ref na, .int (le), .int (nI (cn))])), (pa, .inl (cI, 1066, .inl (pd))), (va, .inl (cI, 1066, .inl (vl))), (na, .inl (cZ, 1066, .inl (kn))), (ra, .inl (cI, 64, .inl (rw))), (o, .inr (1, [.ref wa, .ref sa, .ref la, .int (nI (fm_HF (fm_RB g) 2)), .int (nI (fm_HF (fm_RB g) 3)), .int (nI (s0)), .int (nI (fm_z s0)), .int (nI (fm_h s0))])), (wa, .inl (cI, 2048, .inl (w))), (sa, .inl (cI, 10, .inl (st))), (la, .inl (cI, 10, .inl (ln))), (sp, .inr (1, [.ref wb, .ref sb, .ref lb, .int (bc2), .int (ec2), .int (sz2), .int (sc2), .int (hv2)])), (wb, .inl (cI, 2048, .inl (w2))), (sb, .inl (cI, 10, .inl (st2))), (lb, .inl (cI, 10, .inl (ln2))), (mo, .inr (4, [.int (th), .ref fa, .int (nI (n)), .ref ga, .int (nI (1)), .int (nI (s0)), .ref mr, .int (nI (rn)), .ref ka, .ref kw, .int (nI (cn))])), (fa, .inl (cB, 8192, .inl (f))), (ga, .inl (cB, 8192, .inl (g))), (mr, .inl (cB, 64, .inl (rb))), (ka, .inl (cI, 1100, .inl (kd))), (kw, .inl (cI, 1100, .inl (wd))), (ou, .inl (cL, 1, .inr (.inl (ov))))]) (hS : va_S (fm_AA s) s.heap H locs) (hl : lv_has ls 7 [(4, .int (nI (i4))), (3, .ref ou), (2, .ref mo), (1, .ref h), (0, .ref ab)]) (c : Nat) (x2 : Int32) (hx1 : xs (i4 + 1) = nI c) (hx2 : xs (i4 + 2) = x2) (hxx : c = 256 ∨ fm_th (fm_RB g) c = true) (hne : x2 ≠ nI 256) (hno : fm_thI (fm_RB g) x2 = false) : W pg l ev room_1 s m #[Value.ref ab] below meth cd H locs cells slots Q (F0 m 531 ls []) := by
  obtain ⟨hl0, C0, hL8, hK, hTh, hNc⟩ := id CX
  obtain ⟨hx, hb, hr, hml, hown, hts, hX, hbl, hlocks, hgv⟩ := id C0
  have hbA : ¬ fm_AA s ab := Nat.not_le.mpr hbl
  have ht : ∀ w ∈ fm_T, w.before #[Value.ref ab] s = true := fun w h => hts w (fm_ofT h).1
  have hown : s.vm.findClass R_LW = some m.cls := hown
  have S : CallFix pg m cd code 7 s #[Value.ref ab] (Cond.initialized R_FM :: fm_T) R_LW := ⟨hx, hb, hml, hown, fun w h => (List.mem_cons.mp h).elim (fun e => by rw [e]; exact ht _ q_1_1) (ht w)⟩
  have hf0 : cells ≤ room_1.cells ∧ slots ≤ room_1.slots := ⟨show cells ≤ 1055 by omega, show slots ≤ 36376 by omega⟩
  have hf1 : cells + 1 ≤ room_1.cells ∧ slots + 6 ≤ room_1.slots := hc
  obtain ⟨j1, j2, j3, j4, j5, j6, j7, j8, j9, j10⟩ := id hJ
  obtain ⟨hF, hV, hs, -, -, -, -, -⟩ := j10 rfl
  have hz := hV.2.2.2.1
  have hLn := hV.1
  refine lv_aload_n hx hb d_LW_law_531 rfl (lv_at hl 3 rfl) ?_
  refine lv_aload_n hx hb d_LW_law_532 rfl (lv_at hl 4 rfl) ?_
  refine lv_iload hx hb d_LW_law_533 (lv_at hl 0 rfl) ?_
  refine lv_iconst (v := nI (1)) hx hb d_LW_law_535 (by decide) ?_
  refine lv_iadd hx hb d_LW_law_536 ?_
  refine fm_tw (z := nI (i4 + 1)) (nI_add _ _) ?_
  refine va_sld hx hb hX hbl hbA hS (vp_in_nI (by omega) (by omega)) d_LW_law_537 ?_
  refine fm_tw (z := nI (c)) (by rw [nI_clamp (by omega)]; exact hx1) ?_
  refine lv_aload_n hx hb d_LW_law_538 rfl (lv_at hl 4 rfl) ?_
  refine lv_iload hx hb d_LW_law_539 (lv_at hl 0 rfl) ?_
  refine lv_iconst (v := nI (2)) hx hb d_LW_law_541 (by decide) ?_
  refine lv_iadd hx hb d_LW_law_542 ?_
  refine fm_tw (z := nI (i4 + 2)) (nI_add _ _) ?_
  refine va_sld hx hb hX hbl hbA hS (vp_in_nI (by omega) (by omega)) d_LW_law_543 ?_
  refine fm_tw (z := (x2)) (by rw [nI_clamp (by omega)]; exact hx2) ?_
  refine lv_aload_n hx hb d_LW_law_544 rfl (lv_at hl 1 rfl) ?_
  refine fm_csw S (x_LW_askN2 l hl0 dC dI h bf li ra (nI (rn)) o sp wa sa la s0 cI (fm_RB g) w st ln c x2 ou (hF) (hxx) (hne) (hno)) rfl rfl k_LW_ask q_3_6 ⟨Nat.le_of_ble_eq_true rfl, Nat.le_of_ble_eq_true rfl⟩ hP hS (hK.sub [0] rfl) (hTh _ _ hS) hNc [0, 8, 9, 10, 11] rfl rfl hl.1 rfl (Nat.le_of_ble_eq_true rfl) hf1 d_LW_law_545 (fun H hz9 hk9 hP hS => ?_)
  refine lv_istore (lv' := [(5, .int (nI (2))), (4, .int (nI (i4))), (3, .ref ou), (2, .ref mo), (1, .ref h), (0, .ref ab)]) hx hb d_LW_law_548 hl (by decide) rfl (fun ls hl => ?_)
  refine lv_aload_n hx hb d_LW_law_550 rfl (lv_at hl 3 rfl) ?_
  refine lv_aload_n hx hb d_LW_law_551 rfl (lv_at hl 5 rfl) ?_
  refine lv_iload hx hb d_LW_law_552 (lv_at hl 1 rfl) ?_
  refine lv_iconst (v := nI (1)) hx hb d_LW_law_554 (by decide) ?_
  refine lv_iadd hx hb d_LW_law_555 ?_
  refine fm_tw (z := nI (i4 + 1)) (nI_add _ _) ?_
  refine va_sld hx hb hX hbl hbA hS (vp_in_nI (by omega) (by omega)) d_LW_law_556 ?_
  refine fm_tw (z := nI (c)) (by rw [nI_clamp (by omega)]; exact hx1) ?_
  refine lv_aload_n hx hb d_LW_law_557 rfl (lv_at hl 5 rfl) ?_
  refine lv_iload hx hb d_LW_law_558 (lv_at hl 1 rfl) ?_
  refine lv_iconst (v := nI (2)) hx hb d_LW_law_560 (by decide) ?_
  refine lv_iadd hx hb d_LW_law_561 ?_
  refine fm_tw (z := nI (i4 + 2)) (nI_add _ _) ?_
  refine va_sld hx hb hX hbl hbA hS (vp_in_nI (by omega) (by omega)) d_LW_law_562 ?_
  refine fm_tw (z := (x2)) (by rw [nI_clamp (by omega)]; exact hx2) ?_
  refine fm_wvP S (c_MO_askN l dC dI mo th fa (nI (n)) ga mr (nI (rn)) ka kw (nI (cn)) s0 cB g (nI (c)) x2 (hLn) (Or.inr (by rw [hno, decide_eq_false hne]; rfl))) rfl rfl k_MO_ask q_4_22 ⟨Nat.le_of_ble_eq_true rfl, Nat.le_of_ble_eq_true rfl⟩ hP hD hS (hK.sub [2] rfl) [16, 18] (by decide) (by decide) rfl 0 rfl rfl rfl hl.1 rfl (Nat.le_of_ble_eq_true rfl) hf1 d_LW_law_563 rfl (fun H locs hP hD hS => ?_)
  have hP : va_P (dC, dI) classes [(h, .inr (3, [.ref bf, .ref li, .ref ra, .int (nI (rn)), .ref o, .ref sp, .int (nI (1))])), (bf, .inr (0, [.ref ba, .int (nI (n))])), (ba, .inl (cI, 2048, .inl (b))), (li, .inr (2, [.ref pa, .ref va, .ref na, .int (le), .int (nI (cn))])), (pa, .inl (cI, 1066, .inl (pd))), (va, .inl (cI, 1066, .inl (vl))), (na, .inl (cZ, 1066, .inl (kn))), (ra, .inl (cI, 64, .inl (rw))), (o, .inr (1, [.ref wa, .ref sa, .ref la, .int (nI (fm_HF (fm_RB g) 2)), .int (nI (fm_HF (fm_RB g) 3)), .int (nI (s0)), .int (nI (fm_z s0)), .int (nI (fm_h s0))])), (wa, .inl (cI, 2048, .inl (w))), (sa, .inl (cI, 10, .inl (st))), (la, .inl (cI, 10, .inl (ln))), (sp, .inr (1, [.ref wb, .ref sb, .ref lb, .int (bc2), .int (ec2), .int (sz2), .int (sc2), .int (hv2)])), (wb, .inl (cI, 2048, .inl (w2))), (sb, .inl (cI, 10, .inl (st2))), (lb, .inl (cI, 10, .inl (ln2))), (mo, .inr (4, [.int (nI (2)), .ref fa, .int (nI (n)), .ref ga, .int (nI (1)), .int (nI (s0)), .ref mr, .int (nI (rn)), .ref ka, .ref kw, .int (nI (cn))])), (fa, .inl (cB, 8192, .inl (f))), (ga, .inl (cB, 8192, .inl (g))), (mr, .inl (cB, 64, .inl (rb))), (ka, .inl (cI, 1100, .inl (kd))), (kw, .inl (cI, 1100, .inl (wd))), (ou, .inl (cL, 1, .inr (.inl (ov))))] _ := hP
  have hD : va_D (fm_AA s) [(h, .inr (3, [.ref bf, .ref li, .ref ra, .int (nI (rn)), .ref o, .ref sp, .int (nI (1))])), (bf, .inr (0, [.ref ba, .int (nI (n))])), (ba, .inl (cI, 2048, .inl (b))), (li, .inr (2, [.ref pa, .ref va, .ref na, .int (le), .int (nI (cn))])), (pa, .inl (cI, 1066, .inl (pd))), (va, .inl (cI, 1066, .inl (vl))), (na, .inl (cZ, 1066, .inl (kn))), (ra, .inl (cI, 64, .inl (rw))), (o, .inr (1, [.ref wa, .ref sa, .ref la, .int (nI (fm_HF (fm_RB g) 2)), .int (nI (fm_HF (fm_RB g) 3)), .int (nI (s0)), .int (nI (fm_z s0)), .int (nI (fm_h s0))])), (wa, .inl (cI, 2048, .inl (w))), (sa, .inl (cI, 10, .inl (st))), (la, .inl (cI, 10, .inl (ln))), (sp, .inr (1, [.ref wb, .ref sb, .ref lb, .int (bc2), .int (ec2), .int (sz2), .int (sc2), .int (hv2)])), (wb, .inl (cI, 2048, .inl (w2))), (sb, .inl (cI, 10, .inl (st2))), (lb, .inl (cI, 10, .inl (ln2))), (mo, .inr (4, [.int (nI (2)), .ref fa, .int (nI (n)), .ref ga, .int (nI (1)), .int (nI (s0)), .ref mr, .int (nI (rn)), .ref ka, .ref kw, .int (nI (cn))])), (fa, .inl (cB, 8192, .inl (f))), (ga, .inl (cB, 8192, .inl (g))), (mr, .inl (cB, 64, .inl (rb))), (ka, .inl (cI, 1100, .inl (kd))), (kw, .inl (cI, 1100, .inl (wd))), (ou, .inl (cL, 1, .inr (.inl (ov))))] := hD
  refine lv_istore (lv' := [(6, .int (nI (0))), (5, .int (nI (2))), (4, .int (nI (i4))), (3, .ref ou), (2, .ref mo), (1, .ref h), (0, .ref ab)]) hx hb d_LW_law_566 hl (by decide) rfl (fun ls hl => ?_)
  refine lv_aload_n hx hb d_LW_law_568 rfl (lv_at hl 4 rfl) ?_
  refine fm_cv S (c_MO_thrown l dC dI mo (nI (2)) fa (nI (n)) ga (nI (1)) (nI (s0)) mr (nI (rn)) ka kw (nI (cn)) ) rfl rfl k_MO_thrown q_3_147 ⟨Nat.le_of_ble_eq_true rfl, Nat.le_of_ble_eq_true rfl⟩ (hP.sub [16] rfl) (hK.sub [] rfl) 0 rfl rfl rfl hl.1 rfl (Nat.le_of_ble_eq_true rfl) hf1 d_LW_law_569 ?_
  refine lv_iload hx hb d_LW_law_572 (lv_at hl 1 rfl) ?_
  refine lv_icmp_eq (tgt := 579) hx hb d_LW_law_574 (by decide) (fun c0 => ?_) (fun c0 => ?_)
  · have c_574 : 2 = 2 := (nI_eq (a := 2) (b := 2) (by omega) (by omega)).mp c0
    refine lv_iload hx hb d_LW_law_579 (lv_at hl 1 rfl) ?_
    refine lv_if_ne (tgt := 596) hx hb d_LW_law_581 (by decide) (fun c0 => ?_) (fun c0 => ?_)
    · have c_581 : ¬ (2 = 0) := fun z => c0 ((nI_eq (a := 2) (b := 0) (by omega) (by omega)).mpr z)
      refine lv_goto (tgt := 801) hx hb d_LW_law_596 (by decide) ?_
      refine W.widen (k := cells + 1) (n := slots + 6) (by omega) (by omega) ?_
      exact k801 _ _ _ ⟨bf, ba, li, pa, va, na, ra, o, wa, sa, la, sp, wb, sb, lb, fa, ga, mr, ka, kw, n, b, rn, rw, 1, ((le)), cn, pd, vl, kn, (nI (fm_HF (fm_RB g) 2)), (nI (fm_HF (fm_RB g) 3)), (nI (s0)), (nI (fm_z s0)), (nI (fm_h s0)), w, st, ln, ((bc2)), ((ec2)), ((sz2)), ((sc2)), ((hv2)), w2, st2, ln2, (nI (2)), f, g, s0, rb, kd, wd, ov, hJ, hP, hD, hS⟩ (lv_sub hl [2, 3, 4, 5, 6] rfl)
    · have c_581 : 2 = 0 := (nI_eq (a := 2) (b := 0) (by omega) (by omega)).mp c0
      exact absurd c_581 (by decide)
  · have c_574 : ¬ (2 = 2) := fun z => c0 ((nI_eq (a := 2) (b := 2) (by omega) (by omega)).mpr z)
    exact absurd c_574 (by decide)
set_option maxHeartbeats 4000000 in
set_option maxRecDepth 100000 in
theorem lc_askY {pg : Program} {l : Launch} {ev : Env} {s : State} {m : MethodId} {below : List Frame} {meth : Method} {cd : Code} {ab L : Nat} {xs : Nat → Int32} {dC : Nat → ClassId} {dI : Nat → Nat → Nat} {cI cZ cB cL : ClassId} {Q : State → Prop} {cells slots i4 h mo ou : Nat} (CX : fm_CX pg l s m meth cd ab L xs dC dI cI cZ cB cL) (hc : cells + 1 ≤ 1055 ∧ slots + 6 ≤ 36376) (hi : i4 + 4 ≤ L) (k801 : fm_K8 pg l ev s m ab below meth cd dC dI cI cZ cB cL Q cells slots h mo ou i4) {bf ba li pa va na ra o wa sa la sp wb sb lb fa ga mr ka kw : Nat} {n : Nat} {b : Nat → Int32} {rn : Nat} {rw : Nat → Int32} {le : Int32} {cn : Nat} {pd : Nat → Int32} {vl : Nat → Int32} {kn : Nat → Int32} {w : Nat → Int32} {st : Nat → Int32} {ln : Nat → Int32} {bc2 : Int32} {ec2 : Int32} {sz2 : Int32} {sc2 : Int32} {hv2 : Int32} {w2 : Nat → Int32} {st2 : Nat → Int32} {ln2 : Nat → Int32} {th : Int32} {f : Nat → Int32} {g : Nat → Int32} {s0 : Nat} {rb : Nat → Int32} {kd : Nat → Int32} {wd : Nat → Int32} {ov : Nat → Int64} (hJ : fm_J n b f rn rw rb 1 cn vl kn kd wd g s0 (nI (fm_HF (fm_RB g) 2)) (nI (fm_HF (fm_RB g) 3)) (nI (s0)) (nI (fm_z s0)) (nI (fm_h s0)) w st ln) {H : Heap} {locs : List Loc} {ls : Array Slot} (hP : va_P (dC, dI) classes [(h, .inr (3, [.ref bf, .ref li, .ref ra, .int (nI (rn)), .ref o, .ref sp, .int (nI (1))])), (bf, .inr (0, [.ref ba, .int (nI (n))])), (ba, .inl (cI, 2048, .inl (b))), (li, .inr (2, [.ref pa, .ref va, .ref na, .int (le), .int (nI (cn))])), (pa, .inl (cI, 1066, .inl (pd))), (va, .inl (cI, 1066, .inl (vl))), (na, .inl (cZ, 1066, .inl (kn))), (ra, .inl (cI, 64, .inl (rw))), (o, .inr (1, [.ref wa, .ref sa, .ref la, .int (nI (fm_HF (fm_RB g) 2)), .int (nI (fm_HF (fm_RB g) 3)), .int (nI (s0)), .int (nI (fm_z s0)), .int (nI (fm_h s0))])), (wa, .inl (cI, 2048, .inl (w))), (sa, .inl (cI, 10, .inl (st))), (la, .inl (cI, 10, .inl (ln))), (sp, .inr (1, [.ref wb, .ref sb, .ref lb, .int (bc2), .int (ec2), .int (sz2), .int (sc2), .int (hv2)])), (wb, .inl (cI, 2048, .inl (w2))), (sb, .inl (cI, 10, .inl (st2))), (lb, .inl (cI, 10, .inl (ln2))), (mo, .inr (4, [.int (th), .ref fa, .int (nI (n)), .ref ga, .int (nI (1)), .int (nI (s0)), .ref mr, .int (nI (rn)), .ref ka, .ref kw, .int (nI (cn))])), (fa, .inl (cB, 8192, .inl (f))), (ga, .inl (cB, 8192, .inl (g))), (mr, .inl (cB, 64, .inl (rb))), (ka, .inl (cI, 1100, .inl (kd))), (kw, .inl (cI, 1100, .inl (wd))), (ou, .inl (cL, 1, .inr (.inl (ov))))] H) (hD : va_D (fm_AA s) [(h, .inr (3, [.ref bf, .ref li, .ref ra, .int (nI (rn)), .ref o, .ref sp, .int (nI (1))])), (bf, .inr (0, [.ref ba, .int (nI (n))])), (ba, .inl (cI, 2048, .inl (b))), (li, .inr (2, [.ref pa, .ref va, .ref na, .int (le), .int (nI (cn))])), (pa, .inl (cI, 1066, .inl (pd))), (va, .inl (cI, 1066, .inl (vl))), (na, .inl (cZ, 1066, .inl (kn))), (ra, .inl (cI, 64, .inl (rw))), (o, .inr (1, [.ref wa, .ref sa, .ref la, .int (nI (fm_HF (fm_RB g) 2)), .int (nI (fm_HF (fm_RB g) 3)), .int (nI (s0)), .int (nI (fm_z s0)), .int (nI (fm_h s0))])), (wa, .inl (cI, 2048, .inl (w))), (sa, .inl (cI, 10, .inl (st))), (la, .inl (cI, 10, .inl (ln))), (sp, .inr (1, [.ref wb, .ref sb, .ref lb, .int (bc2), .int (ec2), .int (sz2), .int (sc2), .int (hv2)])), (wb, .inl (cI, 2048, .inl (w2))), (sb, .inl (cI, 10, .inl (st2))), (lb, .inl (cI, 10, .inl (ln2))), (mo, .inr (4, [.int (th), .ref fa, .int (nI (n)), .ref ga, .int (nI (1)), .int (nI (s0)), .ref mr, .int (nI (rn)), .ref ka, .ref kw, .int (nI (cn))])), (fa, .inl (cB, 8192, .inl (f))), (ga, .inl (cB, 8192, .inl (g))), (mr, .inl (cB, 64, .inl (rb))), (ka, .inl (cI, 1100, .inl (kd))), (kw, .inl (cI, 1100, .inl (wd))), (ou, .inl (cL, 1, .inr (.inl (ov))))]) (hS : va_S (fm_AA s) s.heap H locs) (hl : lv_has ls 7 [(4, .int (nI (i4))), (3, .ref ou), (2, .ref mo), (1, .ref h), (0, .ref ab)]) (c : Nat) (r : Nat) (hx1 : xs (i4 + 1) = nI c) (hx2 : xs (i4 + 2) = nI r) (hxx : c = 256 ∨ fm_th (fm_RB g) c = true) (hrr : r = 256 ∨ fm_th (fm_RB g) r = true) : W pg l ev room_1 s m #[Value.ref ab] below meth cd H locs cells slots Q (F0 m 531 ls []) := by
  obtain ⟨hl0, C0, hL8, hK, hTh, hNc⟩ := id CX
  obtain ⟨hx, hb, hr, hml, hown, hts, hX, hbl, hlocks, hgv⟩ := id C0
  have hbA : ¬ fm_AA s ab := Nat.not_le.mpr hbl
  have ht : ∀ w ∈ fm_T, w.before #[Value.ref ab] s = true := fun w h => hts w (fm_ofT h).1
  have hown : s.vm.findClass R_LW = some m.cls := hown
  have S : CallFix pg m cd code 7 s #[Value.ref ab] (Cond.initialized R_FM :: fm_T) R_LW := ⟨hx, hb, hml, hown, fun w h => (List.mem_cons.mp h).elim (fun e => by rw [e]; exact ht _ q_1_1) (ht w)⟩
  have hf0 : cells ≤ room_1.cells ∧ slots ≤ room_1.slots := ⟨show cells ≤ 1055 by omega, show slots ≤ 36376 by omega⟩
  have hf1 : cells + 1 ≤ room_1.cells ∧ slots + 6 ≤ room_1.slots := hc
  obtain ⟨j1, j2, j3, j4, j5, j6, j7, j8, j9, j10⟩ := id hJ
  obtain ⟨hF, hV, hs, -, -, -, -, -⟩ := j10 rfl
  have hz := hV.2.2.2.1
  have hLn := hV.1
  refine lv_aload_n hx hb d_LW_law_531 rfl (lv_at hl 3 rfl) ?_
  refine lv_aload_n hx hb d_LW_law_532 rfl (lv_at hl 4 rfl) ?_
  refine lv_iload hx hb d_LW_law_533 (lv_at hl 0 rfl) ?_
  refine lv_iconst (v := nI (1)) hx hb d_LW_law_535 (by decide) ?_
  refine lv_iadd hx hb d_LW_law_536 ?_
  refine fm_tw (z := nI (i4 + 1)) (nI_add _ _) ?_
  refine va_sld hx hb hX hbl hbA hS (vp_in_nI (by omega) (by omega)) d_LW_law_537 ?_
  refine fm_tw (z := nI (c)) (by rw [nI_clamp (by omega)]; exact hx1) ?_
  refine lv_aload_n hx hb d_LW_law_538 rfl (lv_at hl 4 rfl) ?_
  refine lv_iload hx hb d_LW_law_539 (lv_at hl 0 rfl) ?_
  refine lv_iconst (v := nI (2)) hx hb d_LW_law_541 (by decide) ?_
  refine lv_iadd hx hb d_LW_law_542 ?_
  refine fm_tw (z := nI (i4 + 2)) (nI_add _ _) ?_
  refine va_sld hx hb hX hbl hbA hS (vp_in_nI (by omega) (by omega)) d_LW_law_543 ?_
  refine fm_tw (z := nI (r)) (by rw [nI_clamp (by omega)]; exact hx2) ?_
  refine lv_aload_n hx hb d_LW_law_544 rfl (lv_at hl 1 rfl) ?_
  refine fm_wswP S (c_LW_askY l dC dI h bf li ra (nI (rn)) o sp wa sa la s0 cI (fm_RB g) w st ln c r ou cL ov (hF) (hV) (hxx) (hrr)) rfl rfl k_LW_ask q_3_6 ⟨Nat.le_of_ble_eq_true rfl, Nat.le_of_ble_eq_true rfl⟩ hP hD hS (hK.sub [0, 3] rfl) [0, 8, 9, 10, 11, 22] (by decide) (by decide) rfl rfl hl.1 rfl (Nat.le_of_ble_eq_true rfl) hf0 d_LW_law_545 rfl (fun H locs hP hD hS => ?_)
  have hP : va_P (dC, dI) classes [(h, .inr (3, [.ref bf, .ref li, .ref ra, .int (nI (rn)), .ref o, .ref sp, .int (nI (1))])), (bf, .inr (0, [.ref ba, .int (nI (n))])), (ba, .inl (cI, 2048, .inl (b))), (li, .inr (2, [.ref pa, .ref va, .ref na, .int (le), .int (nI (cn))])), (pa, .inl (cI, 1066, .inl (pd))), (va, .inl (cI, 1066, .inl (vl))), (na, .inl (cZ, 1066, .inl (kn))), (ra, .inl (cI, 64, .inl (rw))), (o, .inr (1, [.ref wa, .ref sa, .ref la, .int (nI (fm_HF (fm_RB g) 2)), .int (nI (fm_HF (fm_RB g) 3)), .int (nI (s0)), .int (nI (fm_z s0)), .int (nI (fm_h s0))])), (wa, .inl (cI, 2048, .inl (w))), (sa, .inl (cI, 10, .inl (st))), (la, .inl (cI, 10, .inl (ln))), (sp, .inr (1, [.ref wb, .ref sb, .ref lb, .int (bc2), .int (ec2), .int (sz2), .int (sc2), .int (hv2)])), (wb, .inl (cI, 2048, .inl (w2))), (sb, .inl (cI, 10, .inl (st2))), (lb, .inl (cI, 10, .inl (ln2))), (mo, .inr (4, [.int (th), .ref fa, .int (nI (n)), .ref ga, .int (nI (1)), .int (nI (s0)), .ref mr, .int (nI (rn)), .ref ka, .ref kw, .int (nI (cn))])), (fa, .inl (cB, 8192, .inl (f))), (ga, .inl (cB, 8192, .inl (g))), (mr, .inl (cB, 64, .inl (rb))), (ka, .inl (cI, 1100, .inl (kd))), (kw, .inl (cI, 1100, .inl (wd))), (ou, .inl (cL, 1, .inr (.inl (vp_updL ov 0 ((fm_say (fm_RB g) c r).toInt64)))))] _ := hP
  have hD : va_D (fm_AA s) [(h, .inr (3, [.ref bf, .ref li, .ref ra, .int (nI (rn)), .ref o, .ref sp, .int (nI (1))])), (bf, .inr (0, [.ref ba, .int (nI (n))])), (ba, .inl (cI, 2048, .inl (b))), (li, .inr (2, [.ref pa, .ref va, .ref na, .int (le), .int (nI (cn))])), (pa, .inl (cI, 1066, .inl (pd))), (va, .inl (cI, 1066, .inl (vl))), (na, .inl (cZ, 1066, .inl (kn))), (ra, .inl (cI, 64, .inl (rw))), (o, .inr (1, [.ref wa, .ref sa, .ref la, .int (nI (fm_HF (fm_RB g) 2)), .int (nI (fm_HF (fm_RB g) 3)), .int (nI (s0)), .int (nI (fm_z s0)), .int (nI (fm_h s0))])), (wa, .inl (cI, 2048, .inl (w))), (sa, .inl (cI, 10, .inl (st))), (la, .inl (cI, 10, .inl (ln))), (sp, .inr (1, [.ref wb, .ref sb, .ref lb, .int (bc2), .int (ec2), .int (sz2), .int (sc2), .int (hv2)])), (wb, .inl (cI, 2048, .inl (w2))), (sb, .inl (cI, 10, .inl (st2))), (lb, .inl (cI, 10, .inl (ln2))), (mo, .inr (4, [.int (th), .ref fa, .int (nI (n)), .ref ga, .int (nI (1)), .int (nI (s0)), .ref mr, .int (nI (rn)), .ref ka, .ref kw, .int (nI (cn))])), (fa, .inl (cB, 8192, .inl (f))), (ga, .inl (cB, 8192, .inl (g))), (mr, .inl (cB, 64, .inl (rb))), (ka, .inl (cI, 1100, .inl (kd))), (kw, .inl (cI, 1100, .inl (wd))), (ou, .inl (cL, 1, .inr (.inl (vp_updL ov 0 ((fm_say (fm_RB g) c r).toInt64)))))] := hD
  refine lv_istore (lv' := [(5, .int (nI (0))), (4, .int (nI (i4))), (3, .ref ou), (2, .ref mo), (1, .ref h), (0, .ref ab)]) hx hb d_LW_law_548 hl (by decide) rfl (fun ls hl => ?_)
  refine lv_aload_n hx hb d_LW_law_550 rfl (lv_at hl 3 rfl) ?_
  refine lv_aload_n hx hb d_LW_law_551 rfl (lv_at hl 5 rfl) ?_
  refine lv_iload hx hb d_LW_law_552 (lv_at hl 1 rfl) ?_
  refine lv_iconst (v := nI (1)) hx hb d_LW_law_554 (by decide) ?_
  refine lv_iadd hx hb d_LW_law_555 ?_
  refine fm_tw (z := nI (i4 + 1)) (nI_add _ _) ?_
  refine va_sld hx hb hX hbl hbA hS (vp_in_nI (by omega) (by omega)) d_LW_law_556 ?_
  refine fm_tw (z := nI (c)) (by rw [nI_clamp (by omega)]; exact hx1) ?_
  refine lv_aload_n hx hb d_LW_law_557 rfl (lv_at hl 5 rfl) ?_
  refine lv_iload hx hb d_LW_law_558 (lv_at hl 1 rfl) ?_
  refine lv_iconst (v := nI (2)) hx hb d_LW_law_560 (by decide) ?_
  refine lv_iadd hx hb d_LW_law_561 ?_
  refine fm_tw (z := nI (i4 + 2)) (nI_add _ _) ?_
  refine va_sld hx hb hX hbl hbA hS (vp_in_nI (by omega) (by omega)) d_LW_law_562 ?_
  refine fm_tw (z := nI (r)) (by rw [nI_clamp (by omega)]; exact hx2) ?_
  refine fm_wvP S (c_MO_askY l dC dI mo th fa (nI (n)) ga mr (nI (rn)) ka kw (nI (cn)) s0 cB g c r (hV) (hxx) (hrr)) rfl rfl k_MO_ask q_4_22 ⟨Nat.le_of_ble_eq_true rfl, Nat.le_of_ble_eq_true rfl⟩ hP hD hS (hK.sub [2] rfl) [16, 18] (by decide) (by decide) rfl 0 rfl rfl rfl hl.1 rfl (Nat.le_of_ble_eq_true rfl) hf0 d_LW_law_563 rfl (fun H locs hP hD hS => ?_)
  have hP : va_P (dC, dI) classes [(h, .inr (3, [.ref bf, .ref li, .ref ra, .int (nI (rn)), .ref o, .ref sp, .int (nI (1))])), (bf, .inr (0, [.ref ba, .int (nI (n))])), (ba, .inl (cI, 2048, .inl (b))), (li, .inr (2, [.ref pa, .ref va, .ref na, .int (le), .int (nI (cn))])), (pa, .inl (cI, 1066, .inl (pd))), (va, .inl (cI, 1066, .inl (vl))), (na, .inl (cZ, 1066, .inl (kn))), (ra, .inl (cI, 64, .inl (rw))), (o, .inr (1, [.ref wa, .ref sa, .ref la, .int (nI (fm_HF (fm_RB g) 2)), .int (nI (fm_HF (fm_RB g) 3)), .int (nI (s0)), .int (nI (fm_z s0)), .int (nI (fm_h s0))])), (wa, .inl (cI, 2048, .inl (w))), (sa, .inl (cI, 10, .inl (st))), (la, .inl (cI, 10, .inl (ln))), (sp, .inr (1, [.ref wb, .ref sb, .ref lb, .int (bc2), .int (ec2), .int (sz2), .int (sc2), .int (hv2)])), (wb, .inl (cI, 2048, .inl (w2))), (sb, .inl (cI, 10, .inl (st2))), (lb, .inl (cI, 10, .inl (ln2))), (mo, .inr (4, [.int (nI (0)), .ref fa, .int (nI (n)), .ref ga, .int (nI (1)), .int (nI (s0)), .ref mr, .int (nI (rn)), .ref ka, .ref kw, .int (nI (cn))])), (fa, .inl (cB, 8192, .inl (f))), (ga, .inl (cB, 8192, .inl (g))), (mr, .inl (cB, 64, .inl (rb))), (ka, .inl (cI, 1100, .inl (kd))), (kw, .inl (cI, 1100, .inl (wd))), (ou, .inl (cL, 1, .inr (.inl (vp_updL ov 0 ((fm_say (fm_RB g) c r).toInt64)))))] _ := hP
  have hD : va_D (fm_AA s) [(h, .inr (3, [.ref bf, .ref li, .ref ra, .int (nI (rn)), .ref o, .ref sp, .int (nI (1))])), (bf, .inr (0, [.ref ba, .int (nI (n))])), (ba, .inl (cI, 2048, .inl (b))), (li, .inr (2, [.ref pa, .ref va, .ref na, .int (le), .int (nI (cn))])), (pa, .inl (cI, 1066, .inl (pd))), (va, .inl (cI, 1066, .inl (vl))), (na, .inl (cZ, 1066, .inl (kn))), (ra, .inl (cI, 64, .inl (rw))), (o, .inr (1, [.ref wa, .ref sa, .ref la, .int (nI (fm_HF (fm_RB g) 2)), .int (nI (fm_HF (fm_RB g) 3)), .int (nI (s0)), .int (nI (fm_z s0)), .int (nI (fm_h s0))])), (wa, .inl (cI, 2048, .inl (w))), (sa, .inl (cI, 10, .inl (st))), (la, .inl (cI, 10, .inl (ln))), (sp, .inr (1, [.ref wb, .ref sb, .ref lb, .int (bc2), .int (ec2), .int (sz2), .int (sc2), .int (hv2)])), (wb, .inl (cI, 2048, .inl (w2))), (sb, .inl (cI, 10, .inl (st2))), (lb, .inl (cI, 10, .inl (ln2))), (mo, .inr (4, [.int (nI (0)), .ref fa, .int (nI (n)), .ref ga, .int (nI (1)), .int (nI (s0)), .ref mr, .int (nI (rn)), .ref ka, .ref kw, .int (nI (cn))])), (fa, .inl (cB, 8192, .inl (f))), (ga, .inl (cB, 8192, .inl (g))), (mr, .inl (cB, 64, .inl (rb))), (ka, .inl (cI, 1100, .inl (kd))), (kw, .inl (cI, 1100, .inl (wd))), (ou, .inl (cL, 1, .inr (.inl (vp_updL ov 0 ((fm_say (fm_RB g) c r).toInt64)))))] := hD
  refine lv_istore (lv' := [(6, .int (fm_say (fm_RB g) c r)), (5, .int (nI (0))), (4, .int (nI (i4))), (3, .ref ou), (2, .ref mo), (1, .ref h), (0, .ref ab)]) hx hb d_LW_law_566 hl (by decide) rfl (fun ls hl => ?_)
  refine lv_aload_n hx hb d_LW_law_568 rfl (lv_at hl 4 rfl) ?_
  refine fm_cv S (c_MO_thrown l dC dI mo (nI (0)) fa (nI (n)) ga (nI (1)) (nI (s0)) mr (nI (rn)) ka kw (nI (cn)) ) rfl rfl k_MO_thrown q_3_147 ⟨Nat.le_of_ble_eq_true rfl, Nat.le_of_ble_eq_true rfl⟩ (hP.sub [16] rfl) (hK.sub [] rfl) 0 rfl rfl rfl hl.1 rfl (Nat.le_of_ble_eq_true rfl) hf0 d_LW_law_569 ?_
  refine lv_iload hx hb d_LW_law_572 (lv_at hl 1 rfl) ?_
  refine lv_icmp_eq (tgt := 579) hx hb d_LW_law_574 (by decide) (fun c0 => ?_) (fun c0 => ?_)
  · have c_574 : 0 = 0 := (nI_eq (a := 0) (b := 0) (by omega) (by omega)).mp c0
    refine lv_iload hx hb d_LW_law_579 (lv_at hl 1 rfl) ?_
    refine lv_if_ne (tgt := 596) hx hb d_LW_law_581 (by decide) (fun c0 => ?_) (fun c0 => ?_)
    · have c_581 : ¬ (0 = 0) := fun z => c0 ((nI_eq (a := 0) (b := 0) (by omega) (by omega)).mpr z)
      exact absurd c_581 (by decide)
    · have c_581 : 0 = 0 := (nI_eq (a := 0) (b := 0) (by omega) (by omega)).mp c0
      refine lv_aload_n hx hb d_LW_law_584 rfl (lv_at hl 3 rfl) ?_
      refine lv_iconst (v := nI (0)) hx hb d_LW_law_585 (by decide) ?_
      refine va_lald hx hb hK hP 22 3 rfl rfl (vp_in_nI (by decide) (by decide)) d_LW_law_586 ?_
      refine fm_twl (z := (fm_say (fm_RB g) c r).toInt64) (by rw [nI_clamp (by decide)]; exact fm_updL0 _ _) ?_
      refine lv_iload hx hb d_LW_law_587 (lv_at hl 0 rfl) ?_
      refine lv_i2l (v := ((fm_say (fm_RB g) c r)).toInt64) hx hb d_LW_law_589 rfl ?_
      refine W.lcmp hx hb d_LW_law_590 ?_
      refine lv_if_eq (tgt := 596) hx hb d_LW_law_591 (by decide) (fun c0 => ?_) (fun c0 => ?_)
      · have c_591 := c0
        refine lv_goto (tgt := 801) hx hb d_LW_law_596 (by decide) ?_
        refine W.widen (k := cells + 1) (n := slots + 6) (by omega) (by omega) ?_
        exact k801 _ _ _ ⟨bf, ba, li, pa, va, na, ra, o, wa, sa, la, sp, wb, sb, lb, fa, ga, mr, ka, kw, n, b, rn, rw, 1, ((le)), cn, pd, vl, kn, (nI (fm_HF (fm_RB g) 2)), (nI (fm_HF (fm_RB g) 3)), (nI (s0)), (nI (fm_z s0)), (nI (fm_h s0)), w, st, ln, ((bc2)), ((ec2)), ((sz2)), ((sc2)), ((hv2)), w2, st2, ln2, (nI (0)), f, g, s0, rb, kd, wd, (vp_updL ov 0 ((fm_say (fm_RB g) c r).toInt64)), hJ, hP, hD, hS⟩ (lv_sub hl [2, 3, 4, 5, 6] rfl)
      · have c_591 := c0
        exact absurd (fm_lcmp0 _) c_591
  · have c_574 : ¬ (0 = 0) := fun z => c0 ((nI_eq (a := 0) (b := 0) (by omega) (by omega)).mpr z)
    exact absurd c_574 (by decide)
