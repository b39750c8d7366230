theorem fm_rng (x : Int32) {N : Nat} (hN : N < 2 ^ 31) : (∃ k : Nat, k ≤ N ∧ x = nI k) ∨ x < 0 ∨ nI N < x := by
  by_cases h0 : x < 0
  · exact Or.inr (Or.inl h0)
  · obtain ⟨k, hk, -, e⟩ := fm_ge (c := x) (a := 0) (by decide) h0
    by_cases h1 : k ≤ N
    · exact Or.inl ⟨k, h1, e⟩
    · exact Or.inr (Or.inr (by rw [e]; exact (nI_ltI hN hk).mpr (by omega)))
theorem fm_rngs (x : Int32) {N : Nat} (hN : N < 2 ^ 31) : (∃ k : Nat, k < N ∧ x = nI k) ∨ x < 0 ∨ nI N ≤ x := by
  by_cases h0 : x < 0
  · exact Or.inr (Or.inl h0)
  · obtain ⟨k, hk, -, e⟩ := fm_ge (c := x) (a := 0) (by decide) h0
    by_cases h1 : k < N
    · exact Or.inl ⟨k, h1, e⟩
    · exact Or.inr (Or.inr (by rw [e]; exact (nI_leI hN hk).mpr (by omega)))
theorem fm_neg {k : Nat} (hk : k < 2 ^ 31) : ¬ nI k < 0 := fun z => absurd ((nI_ltI (b := 0) hk (by decide)).mp z) (Nat.not_lt_zero _)
theorem fm_xx {B : Nat → Nat} (x : Int32) : (∃ c : Nat, x = nI c ∧ (c = 256 ∨ fm_th B c = true)) ∨ (x ≠ nI 256 ∧ fm_thI B x = false) := by
  by_cases h : x = nI 256
  · exact Or.inl ⟨256, h, Or.inl rfl⟩
  · cases ht : fm_thI B x with
    | false => exact Or.inr ⟨h, rfl⟩
    | true =>
      obtain ⟨c, -, e, h2⟩ := fm_thI_t ht
      exact Or.inl ⟨c, e, Or.inr h2⟩
theorem fm_parN {x : Int32} {N : Nat} (hN : N ≤ 65536) (h : ¬ ∃ i : Nat, 0 < i ∧ i ≤ N ∧ x = nI i) : (x < nI 1 ∨ nI N < x) ∧ ∀ i : Nat, x = nI i → 0 < i → N < i := by
  refine ⟨?_, fun i e hi => Nat.lt_of_not_le (fun z => h ⟨i, hi, z, e⟩)⟩
  rcases fm_rng x (show N < 2 ^ 31 by omega) with ⟨k, hk, e⟩ | h1 | h1
  · left
    have hk0 : k = 0 := Nat.eq_zero_of_not_pos (fun z => h ⟨k, z, hk, e⟩)
    rw [e, hk0]
    decide
  · left
    have h2 := Int32.lt_iff_toInt_lt.mp h1
    refine Int32.lt_iff_toInt_lt.mpr ?_
    rw [nI_toInt (by decide)]
    have h3 : (0 : Int32).toInt = 0 := rfl
    omega
  · exact Or.inr h1
theorem fm_sub4 {L i : Nat} (hL : L ≤ 2048) (hi : i ≤ 2048) : nI L - nI 4 < nI i ↔ L < i + 4 := by
  rw [Int32.lt_iff_toInt_lt, pk_sub_toInt (by omega) (by omega), nI_toInt (by omega)]
  omega
theorem ld_feed {pg : Program} {l : Launch} {ev : Env} {s : State} {m : MethodId} {below : List Frame} {meth : Method} {cd : Code} {ab L : Nat} {xs : Nat → Int32} {dC : Nat → ClassId} {dI : Nat → Nat → Nat} {cI cZ cB cL : ClassId} {Q : State → Prop} {cells slots i4 h mo ou : Nat} (CX : fm_CX pg l s m meth cd ab L xs dC dI cI cZ cB cL) (hc : cells + 1 ≤ 1055 ∧ slots + 6 ≤ 36376) (hi : i4 + 4 ≤ L) (k801 : fm_K8 pg l ev s m ab below meth cd dC dI cI cZ cB cL Q cells slots h mo ou i4) {H : Heap} {locs : List Loc} {ls : Array Slot} (hSt : fm_St dC dI cI cZ cB cL (fm_AA s) s.heap h mo ou H locs) (hl : lv_has ls 7 [(4, .int (nI (i4))), (3, .ref ou), (2, .ref mo), (1, .ref h), (0, .ref ab)]) : W pg l ev room_1 s m #[Value.ref ab] below meth cd H locs cells slots Q (F0 m 108 ls []) := by
  obtain ⟨bf, ba, li, pa, va, na, ra, o, wa, sa, la, sp, wb, sb, lb, fa, ga, mr, ka, kw, n, b, rn, rw, ld, le, cn, pd, vl, kn, bc, ec, sz, sc, hv, w, st, ln, bc2, ec2, sz2, sc2, hv2, w2, st2, ln2, th, f, g, s0, rb, kd, wd, ov, hJ, hP, hD, hS⟩ := hSt
  obtain ⟨j1, j2, j3, j4, j5, j6, j7, j8, j9, j10⟩ := id hJ
  by_cases hk : ∃ k : Nat, xs (i4 + 3) = nI k ∧ 0 < k ∧ k ≤ 8 ∧ n + k ≤ 8192
  · obtain ⟨k, e, h1, h2, h3⟩ := hk
    exact lc_feedY CX hc hi k801 hJ hP hD hS hl _ _ _ k rfl rfl rfl e h3 h1 h2
  · exact lc_feedN CX hc hi k801 hJ hP hD hS hl _ _ _ _ rfl rfl rfl rfl (fun k e h1 h2 h3 => hk ⟨k, e, h1, h2, h3⟩)
theorem ld_keep {pg : Program} {l : Launch} {ev : Env} {s : State} {m : MethodId} {below : List Frame} {meth : Method} {cd : Code} {ab L : Nat} {xs : Nat → Int32} {dC : Nat → ClassId} {dI : Nat → Nat → Nat} {cI cZ cB cL : ClassId} {Q : State → Prop} {cells slots i4 h mo ou : Nat} (CX : fm_CX pg l s m meth cd ab L xs dC dI cI cZ cB cL) (hc : cells + 1 ≤ 1055 ∧ slots + 6 ≤ 36376) (hi : i4 + 4 ≤ L) (k801 : fm_K8 pg l ev s m ab below meth cd dC dI cI cZ cB cL Q cells slots h mo ou i4) {H : Heap} {locs : List Loc} {ls : Array Slot} (hSt : fm_St dC dI cI cZ cB cL (fm_AA s) s.heap h mo ou H locs) (hl : lv_has ls 7 [(4, .int (nI (i4))), (3, .ref ou), (2, .ref mo), (1, .ref h), (0, .ref ab)]) : W pg l ev room_1 s m #[Value.ref ab] below meth cd H locs cells slots Q (F0 m 177 ls []) := by
  obtain ⟨bf, ba, li, pa, va, na, ra, o, wa, sa, la, sp, wb, sb, lb, fa, ga, mr, ka, kw, n, b, rn, rw, ld, le, cn, pd, vl, kn, bc, ec, sz, sc, hv, w, st, ln, bc2, ec2, sz2, sc2, hv2, w2, st2, ln2, th, f, g, s0, rb, kd, wd, ov, hJ, hP, hD, hS⟩ := hSt
  obtain ⟨j1, j2, j3, j4, j5, j6, j7, j8, j9, j10⟩ := id hJ
  rcases fm_rng (xs (i4 + 1)) (show n < 2 ^ 31 by omega) with ⟨k, hk, e⟩ | hno
  · exact lc_keepY CX hc hi k801 hJ hP hD hS hl k e hk
  · exact lc_keepN CX hc hi k801 hJ hP hD hS hl _ rfl hno
theorem ld_load {pg : Program} {l : Launch} {ev : Env} {s : State} {m : MethodId} {below : List Frame} {meth : Method} {cd : Code} {ab L : Nat} {xs : Nat → Int32} {dC : Nat → ClassId} {dI : Nat → Nat → Nat} {cI cZ cB cL : ClassId} {Q : State → Prop} {cells slots i4 h mo ou : Nat} (CX : fm_CX pg l s m meth cd ab L xs dC dI cI cZ cB cL) (hc : cells + 1 ≤ 1055 ∧ slots + 6 ≤ 36376) (hi : i4 + 4 ≤ L) (k801 : fm_K8 pg l ev s m ab below meth cd dC dI cI cZ cB cL Q cells slots h mo ou i4) {H : Heap} {locs : List Loc} {ls : Array Slot} (hSt : fm_St dC dI cI cZ cB cL (fm_AA s) s.heap h mo ou H locs) (hl : lv_has ls 7 [(4, .int (nI (i4))), (3, .ref ou), (2, .ref mo), (1, .ref h), (0, .ref ab)]) : W pg l ev room_1 s m #[Value.ref ab] below meth cd H locs cells slots Q (F0 m 202 ls []) := by
  obtain ⟨bf, ba, li, pa, va, na, ra, o, wa, sa, la, sp, wb, sb, lb, fa, ga, mr, ka, kw, n, b, rn, rw, ld, le, cn, pd, vl, kn, bc, ec, sz, sc, hv, w, st, ln, bc2, ec2, sz2, sc2, hv2, w2, st2, ln2, th, f, g, s0, rb, kd, wd, ov, hJ, hP, hD, hS⟩ := hSt
  obtain ⟨j1, j2, j3, j4, j5, j6, j7, j8, j9, j10⟩ := id hJ
  rcases fm_rng (xs (i4 + 1)) (show 134217727 < 2 ^ 31 by decide) with ⟨a, ha, e⟩ | hno
  · by_cases hft : fm_fault (fm_RB f) n = 0
    · exact lc_loadO CX hc hi k801 hJ hP hD hS hl a e ha hft
    · exact lc_loadF CX hc hi k801 hJ hP hD hS hl a e ha hft
  · exact lc_loadX CX hc hi k801 hJ hP hD hS hl _ rfl hno
theorem ld_about {pg : Program} {l : Launch} {ev : Env} {s : State} {m : MethodId} {below : List Frame} {meth : Method} {cd : Code} {ab L : Nat} {xs : Nat → Int32} {dC : Nat → ClassId} {dI : Nat → Nat → Nat} {cI cZ cB cL : ClassId} {Q : State → Prop} {cells slots i4 h mo ou : Nat} (CX : fm_CX pg l s m meth cd ab L xs dC dI cI cZ cB cL) (hc : cells + 1 ≤ 1055 ∧ slots + 6 ≤ 36376) (hi : i4 + 4 ≤ L) (k801 : fm_K8 pg l ev s m ab below meth cd dC dI cI cZ cB cL Q cells slots h mo ou i4) {H : Heap} {locs : List Loc} {ls : Array Slot} (hSt : fm_St dC dI cI cZ cB cL (fm_AA s) s.heap h mo ou H locs) (hl : lv_has ls 7 [(4, .int (nI (i4))), (3, .ref ou), (2, .ref mo), (1, .ref h), (0, .ref ab)]) : W pg l ev room_1 s m #[Value.ref ab] below meth cd H locs cells slots Q (F0 m 258 ls []) := by
  obtain ⟨bf, ba, li, pa, va, na, ra, o, wa, sa, la, sp, wb, sb, lb, fa, ga, mr, ka, kw, n, b, rn, rw, ld, le, cn, pd, vl, kn, bc, ec, sz, sc, hv, w, st, ln, bc2, ec2, sz2, sc2, hv2, w2, st2, ln2, th, f, g, s0, rb, kd, wd, ov, hJ, hP, hD, hS⟩ := hSt
  obtain ⟨j1, j2, j3, j4, j5, j6, j7, j8, j9, j10⟩ := id hJ
  rcases (show ld = 0 ∨ ld = 1 by omega) with rfl | rfl
  · exact lc_aboutU CX hc hi k801 hJ hP hD hS hl _ rfl
  · obtain ⟨hF, hV, hs, rfl, rfl, rfl, rfl, rfl⟩ := j10 rfl
    have hLn := hV.1
    rcases fm_rng (xs (i4 + 1)) (show 6 < 2 ^ 31 by decide) with ⟨v, hv, e⟩ | hno
    · exact lc_aboutY CX hc hi k801 hJ hP hD hS hl v e (by omega)
    · exact lc_aboutN CX hc hi k801 hJ hP hD hS hl _ rfl hno
theorem ld_has {pg : Program} {l : Launch} {ev : Env} {s : State} {m : MethodId} {below : List Frame} {meth : Method} {cd : Code} {ab L : Nat} {xs : Nat → Int32} {dC : Nat → ClassId} {dI : Nat → Nat → Nat} {cI cZ cB cL : ClassId} {Q : State → Prop} {cells slots i4 h mo ou : Nat} (CX : fm_CX pg l s m meth cd ab L xs dC dI cI cZ cB cL) (hc : cells + 1 ≤ 1055 ∧ slots + 6 ≤ 36376) (hi : i4 + 4 ≤ L) (k801 : fm_K8 pg l ev s m ab below meth cd dC dI cI cZ cB cL Q cells slots h mo ou i4) {H : Heap} {locs : List Loc} {ls : Array Slot} (hSt : fm_St dC dI cI cZ cB cL (fm_AA s) s.heap h mo ou H locs) (hl : lv_has ls 7 [(4, .int (nI (i4))), (3, .ref ou), (2, .ref mo), (1, .ref h), (0, .ref ab)]) : W pg l ev room_1 s m #[Value.ref ab] below meth cd H locs cells slots Q (F0 m 314 ls []) := by
  obtain ⟨bf, ba, li, pa, va, na, ra, o, wa, sa, la, sp, wb, sb, lb, fa, ga, mr, ka, kw, n, b, rn, rw, ld, le, cn, pd, vl, kn, bc, ec, sz, sc, hv, w, st, ln, bc2, ec2, sz2, sc2, hv2, w2, st2, ln2, th, f, g, s0, rb, kd, wd, ov, hJ, hP, hD, hS⟩ := hSt
  obtain ⟨j1, j2, j3, j4, j5, j6, j7, j8, j9, j10⟩ := id hJ
  rcases (show ld = 0 ∨ ld = 1 by omega) with rfl | rfl
  · exact lc_hasU CX hc hi k801 hJ hP hD hS hl _ rfl
  · obtain ⟨hF, hV, hs, rfl, rfl, rfl, rfl, rfl⟩ := j10 rfl
    have hLn := hV.1
    exact lc_hasL CX hc hi k801 hJ hP hD hS hl _ rfl
theorem ld_of {pg : Program} {l : Launch} {ev : Env} {s : State} {m : MethodId} {below : List Frame} {meth : Method} {cd : Code} {ab L : Nat} {xs : Nat → Int32} {dC : Nat → ClassId} {dI : Nat → Nat → Nat} {cI cZ cB cL : ClassId} {Q : State → Prop} {cells slots i4 h mo ou : Nat} (CX : fm_CX pg l s m meth cd ab L xs dC dI cI cZ cB cL) (hc : cells + 1 ≤ 1055 ∧ slots + 6 ≤ 36376) (hi : i4 + 4 ≤ L) (k801 : fm_K8 pg l ev s m ab below meth cd dC dI cI cZ cB cL Q cells slots h mo ou i4) {H : Heap} {locs : List Loc} {ls : Array Slot} (hSt : fm_St dC dI cI cZ cB cL (fm_AA s) s.heap h mo ou H locs) (hl : lv_has ls 7 [(4, .int (nI (i4))), (3, .ref ou), (2, .ref mo), (1, .ref h), (0, .ref ab)]) : W pg l ev room_1 s m #[Value.ref ab] below meth cd H locs cells slots Q (F0 m 339 ls []) := by
  obtain ⟨bf, ba, li, pa, va, na, ra, o, wa, sa, la, sp, wb, sb, lb, fa, ga, mr, ka, kw, n, b, rn, rw, ld, le, cn, pd, vl, kn, bc, ec, sz, sc, hv, w, st, ln, bc2, ec2, sz2, sc2, hv2, w2, st2, ln2, th, f, g, s0, rb, kd, wd, ov, hJ, hP, hD, hS⟩ := hSt
  obtain ⟨j1, j2, j3, j4, j5, j6, j7, j8, j9, j10⟩ := id hJ
  rcases (show ld = 0 ∨ ld = 1 by omega) with rfl | rfl
  · exact lc_ofU CX hc hi k801 hJ hP hD hS hl _ _ rfl rfl
  · obtain ⟨hF, hV, hs, rfl, rfl, rfl, rfl, rfl⟩ := j10 rfl
    have hLn := hV.1
    cases ht : fm_thI (fm_RB g) (xs (i4 + 1)) with
    | false => exact lc_ofN1 CX hc hi k801 hJ hP hD hS hl _ _ rfl rfl ht
    | true =>
      obtain ⟨c, hc31, e, hth⟩ := fm_thI_t ht
      rcases fm_rng (xs (i4 + 2)) (show 5 < 2 ^ 31 by decide) with ⟨v, hv, e2⟩ | hno
      · exact lc_ofY CX hc hi k801 hJ hP hD hS hl c v e e2 hth hc31 (by omega)
      · exact lc_ofN2 CX hc hi k801 hJ hP hD hS hl c _ e rfl hth hc31 hno
theorem ld_part {pg : Program} {l : Launch} {ev : Env} {s : State} {m : MethodId} {below : List Frame} {meth : Method} {cd : Code} {ab L : Nat} {xs : Nat → Int32} {dC : Nat → ClassId} {dI : Nat → Nat → Nat} {cI cZ cB cL : ClassId} {Q : State → Prop} {cells slots i4 h mo ou : Nat} (CX : fm_CX pg l s m meth cd ab L xs dC dI cI cZ cB cL) (hc : cells + 1 ≤ 1055 ∧ slots + 6 ≤ 36376) (hi : i4 + 4 ≤ L) (k801 : fm_K8 pg l ev s m ab below meth cd dC dI cI cZ cB cL Q cells slots h mo ou i4) {H : Heap} {locs : List Loc} {ls : Array Slot} (hSt : fm_St dC dI cI cZ cB cL (fm_AA s) s.heap h mo ou H locs) (hl : lv_has ls 7 [(4, .int (nI (i4))), (3, .ref ou), (2, .ref mo), (1, .ref h), (0, .ref ab)]) : W pg l ev room_1 s m #[Value.ref ab] below meth cd H locs cells slots Q (F0 m 407 ls []) := by
  obtain ⟨bf, ba, li, pa, va, na, ra, o, wa, sa, la, sp, wb, sb, lb, fa, ga, mr, ka, kw, n, b, rn, rw, ld, le, cn, pd, vl, kn, bc, ec, sz, sc, hv, w, st, ln, bc2, ec2, sz2, sc2, hv2, w2, st2, ln2, th, f, g, s0, rb, kd, wd, ov, hJ, hP, hD, hS⟩ := hSt
  obtain ⟨j1, j2, j3, j4, j5, j6, j7, j8, j9, j10⟩ := id hJ
  rcases (show ld = 0 ∨ ld = 1 by omega) with rfl | rfl
  · exact lc_partU CX hc hi k801 hJ hP hD hS hl _ _ rfl rfl
  · obtain ⟨hF, hV, hs, rfl, rfl, rfl, rfl, rfl⟩ := j10 rfl
    have hLn := hV.1
    cases ht : fm_thI (fm_RB g) (xs (i4 + 1)) with
    | false => exact lc_partN1 CX hc hi k801 hJ hP hD hS hl _ _ rfl rfl ht
    | true =>
      obtain ⟨c, hc31, e, hth⟩ := fm_thI_t ht
      by_cases htg : fm_tag (fm_RB g) c = 3
      · rcases fm_rng (xs (i4 + 2)) (show 3 < 2 ^ 31 by decide) with ⟨k, hk, e2⟩ | hno
        · exact lc_partY CX hc hi k801 hJ hP hD hS hl c k e e2 hth hc31 htg (by omega)
        · exact lc_partN2 CX hc hi k801 hJ hP hD hS hl c _ e rfl hth hc31 (Or.inr hno)
      · exact lc_partN2 CX hc hi k801 hJ hP hD hS hl c _ e rfl hth hc31 (Or.inl htg)
theorem ld_parameter {pg : Program} {l : Launch} {ev : Env} {s : State} {m : MethodId} {below : List Frame} {meth : Method} {cd : Code} {ab L : Nat} {xs : Nat → Int32} {dC : Nat → ClassId} {dI : Nat → Nat → Nat} {cI cZ cB cL : ClassId} {Q : State → Prop} {cells slots i4 h mo ou : Nat} (CX : fm_CX pg l s m meth cd ab L xs dC dI cI cZ cB cL) (hc : cells + 1 ≤ 1055 ∧ slots + 6 ≤ 36376) (hi : i4 + 4 ≤ L) (k801 : fm_K8 pg l ev s m ab below meth cd dC dI cI cZ cB cL Q cells slots h mo ou i4) {H : Heap} {locs : List Loc} {ls : Array Slot} (hSt : fm_St dC dI cI cZ cB cL (fm_AA s) s.heap h mo ou H locs) (hl : lv_has ls 7 [(4, .int (nI (i4))), (3, .ref ou), (2, .ref mo), (1, .ref h), (0, .ref ab)]) : W pg l ev room_1 s m #[Value.ref ab] below meth cd H locs cells slots Q (F0 m 475 ls []) := by
  obtain ⟨bf, ba, li, pa, va, na, ra, o, wa, sa, la, sp, wb, sb, lb, fa, ga, mr, ka, kw, n, b, rn, rw, ld, le, cn, pd, vl, kn, bc, ec, sz, sc, hv, w, st, ln, bc2, ec2, sz2, sc2, hv2, w2, st2, ln2, th, f, g, s0, rb, kd, wd, ov, hJ, hP, hD, hS⟩ := hSt
  obtain ⟨j1, j2, j3, j4, j5, j6, j7, j8, j9, j10⟩ := id hJ
  rcases (show ld = 0 ∨ ld = 1 by omega) with rfl | rfl
  · exact lc_parameterU CX hc hi k801 hJ hP hD hS hl _ rfl
  · obtain ⟨hF, hV, hs, rfl, rfl, rfl, rfl, rfl⟩ := j10 rfl
    have hLn := hV.1
    by_cases hk : ∃ i : Nat, 0 < i ∧ i ≤ fm_WD (fm_RB g) 9 ∧ xs (i4 + 1) = nI i
    · obtain ⟨i, h1, h2, e⟩ := hk
      exact lc_parameterY CX hc hi k801 hJ hP hD hS hl i e h1 h2
    · obtain ⟨h1, h2⟩ := fm_parN (fm_WD_le (fm_RB_lt g) 9) hk
      exact lc_parameterN CX hc hi k801 hJ hP hD hS hl _ rfl h1 h2
theorem ld_ask {pg : Program} {l : Launch} {ev : Env} {s : State} {m : MethodId} {below : List Frame} {meth : Method} {cd : Code} {ab L : Nat} {xs : Nat → Int32} {dC : Nat → ClassId} {dI : Nat → Nat → Nat} {cI cZ cB cL : ClassId} {Q : State → Prop} {cells slots i4 h mo ou : Nat} (CX : fm_CX pg l s m meth cd ab L xs dC dI cI cZ cB cL) (hc : cells + 1 ≤ 1055 ∧ slots + 6 ≤ 36376) (hi : i4 + 4 ≤ L) (k801 : fm_K8 pg l ev s m ab below meth cd dC dI cI cZ cB cL Q cells slots h mo ou i4) {H : Heap} {locs : List Loc} {ls : Array Slot} (hSt : fm_St dC dI cI cZ cB cL (fm_AA s) s.heap h mo ou H locs) (hl : lv_has ls 7 [(4, .int (nI (i4))), (3, .ref ou), (2, .ref mo), (1, .ref h), (0, .ref ab)]) : W pg l ev room_1 s m #[Value.ref ab] below meth cd H locs cells slots Q (F0 m 531 ls []) := by
  obtain ⟨bf, ba, li, pa, va, na, ra, o, wa, sa, la, sp, wb, sb, lb, fa, ga, mr, ka, kw, n, b, rn, rw, ld, le, cn, pd, vl, kn, bc, ec, sz, sc, hv, w, st, ln, bc2, ec2, sz2, sc2, hv2, w2, st2, ln2, th, f, g, s0, rb, kd, wd, ov, hJ, hP, hD, hS⟩ := hSt
  obtain ⟨j1, j2, j3, j4, j5, j6, j7, j8, j9, j10⟩ := id hJ
  rcases (show ld = 0 ∨ ld = 1 by omega) with rfl | rfl
  · exact lc_askU CX hc hi k801 hJ hP hD hS hl _ _ rfl rfl
  · obtain ⟨hF, hV, hs, rfl, rfl, rfl, rfl, rfl⟩ := j10 rfl
    have hLn := hV.1
    rcases fm_xx (B := fm_RB g) (xs (i4 + 1)) with ⟨c, e, hxx⟩ | ⟨hne, hno⟩
    · rcases fm_xx (B := fm_RB g) (xs (i4 + 2)) with ⟨r, e2, hrr⟩ | ⟨hne, hno⟩
      · exact lc_askY CX hc hi k801 hJ hP hD hS hl c r e e2 hxx hrr
      · exact lc_askN2 CX hc hi k801 hJ hP hD hS hl c _ e rfl hxx hne hno
    · exact lc_askN1 CX hc hi k801 hJ hP hD hS hl _ _ rfl rfl hne hno
theorem ld_add {pg : Program} {l : Launch} {ev : Env} {s : State} {m : MethodId} {below : List Frame} {meth : Method} {cd : Code} {ab L : Nat} {xs : Nat → Int32} {dC : Nat → ClassId} {dI : Nat → Nat → Nat} {cI cZ cB cL : ClassId} {Q : State → Prop} {cells slots i4 h mo ou : Nat} (CX : fm_CX pg l s m meth cd ab L xs dC dI cI cZ cB cL) (hc : cells + 1 ≤ 1055 ∧ slots + 6 ≤ 36376) (hi : i4 + 4 ≤ L) (k801 : fm_K8 pg l ev s m ab below meth cd dC dI cI cZ cB cL Q cells slots h mo ou i4) {H : Heap} {locs : List Loc} {ls : Array Slot} (hSt : fm_St dC dI cI cZ cB cL (fm_AA s) s.heap h mo ou H locs) (hl : lv_has ls 7 [(4, .int (nI (i4))), (3, .ref ou), (2, .ref mo), (1, .ref h), (0, .ref ab)]) : W pg l ev room_1 s m #[Value.ref ab] below meth cd H locs cells slots Q (F0 m 599 ls []) := by
  obtain ⟨bf, ba, li, pa, va, na, ra, o, wa, sa, la, sp, wb, sb, lb, fa, ga, mr, ka, kw, n, b, rn, rw, ld, le, cn, pd, vl, kn, bc, ec, sz, sc, hv, w, st, ln, bc2, ec2, sz2, sc2, hv2, w2, st2, ln2, th, f, g, s0, rb, kd, wd, ov, hJ, hP, hD, hS⟩ := hSt
  obtain ⟨j1, j2, j3, j4, j5, j6, j7, j8, j9, j10⟩ := id hJ
  rcases fm_rng (xs (i4 + 1)) (show 255 < 2 ^ 31 by decide) with ⟨c, hc1, e⟩ | hno
  · by_cases hrn : rn < 64
    · exact lc_addY CX hc hi k801 hJ hP hD hS hl c e hc1 hrn
    · exact lc_addN CX hc hi k801 hJ hP hD hS hl _ rfl (Or.inr (Or.inr (by omega)))
  · exact lc_addN CX hc hi k801 hJ hP hD hS hl _ rfl (hno.elim Or.inl (fun z => Or.inr (Or.inl z)))
theorem ld_set {pg : Program} {l : Launch} {ev : Env} {s : State} {m : MethodId} {below : List Frame} {meth : Method} {cd : Code} {ab L : Nat} {xs : Nat → Int32} {dC : Nat → ClassId} {dI : Nat → Nat → Nat} {cI cZ cB cL : ClassId} {Q : State → Prop} {cells slots i4 h mo ou : Nat} (CX : fm_CX pg l s m meth cd ab L xs dC dI cI cZ cB cL) (hc : cells + 1 ≤ 1055 ∧ slots + 6 ≤ 36376) (hi : i4 + 4 ≤ L) (k801 : fm_K8 pg l ev s m ab below meth cd dC dI cI cZ cB cL Q cells slots h mo ou i4) {H : Heap} {locs : List Loc} {ls : Array Slot} (hSt : fm_St dC dI cI cZ cB cL (fm_AA s) s.heap h mo ou H locs) (hl : lv_has ls 7 [(4, .int (nI (i4))), (3, .ref ou), (2, .ref mo), (1, .ref h), (0, .ref ab)]) : W pg l ev room_1 s m #[Value.ref ab] below meth cd H locs cells slots Q (F0 m 624 ls []) := by
  obtain ⟨bf, ba, li, pa, va, na, ra, o, wa, sa, la, sp, wb, sb, lb, fa, ga, mr, ka, kw, n, b, rn, rw, ld, le, cn, pd, vl, kn, bc, ec, sz, sc, hv, w, st, ln, bc2, ec2, sz2, sc2, hv2, w2, st2, ln2, th, f, g, s0, rb, kd, wd, ov, hJ, hP, hD, hS⟩ := hSt
  obtain ⟨j1, j2, j3, j4, j5, j6, j7, j8, j9, j10⟩ := id hJ
  rcases (show ld = 0 ∨ ld = 1 by omega) with rfl | rfl
  · exact lc_setU CX hc hi k801 hJ hP hD hS hl
  · obtain ⟨hF, hV, hs, rfl, rfl, rfl, rfl, rfl⟩ := j10 rfl
    have hLn := hV.1
    cases ha : fm_all rn (fun i => fm_th (fm_RB g) (fm_RB rb i)) with
    | false => exact lc_setN CX hc hi k801 hJ hP hD hS hl ha
    | true => exact lc_setY CX hc hi k801 hJ hP hD hS hl ha
theorem ld_isKern {pg : Program} {l : Launch} {ev : Env} {s : State} {m : MethodId} {below : List Frame} {meth : Method} {cd : Code} {ab L : Nat} {xs : Nat → Int32} {dC : Nat → ClassId} {dI : Nat → Nat → Nat} {cI cZ cB cL : ClassId} {Q : State → Prop} {cells slots i4 h mo ou : Nat} (CX : fm_CX pg l s m meth cd ab L xs dC dI cI cZ cB cL) (hc : cells + 1 ≤ 1055 ∧ slots + 6 ≤ 36376) (hi : i4 + 4 ≤ L) (k801 : fm_K8 pg l ev s m ab below meth cd dC dI cI cZ cB cL Q cells slots h mo ou i4) {H : Heap} {locs : List Loc} {ls : Array Slot} (hSt : fm_St dC dI cI cZ cB cL (fm_AA s) s.heap h mo ou H locs) (hl : lv_has ls 7 [(4, .int (nI (i4))), (3, .ref ou), (2, .ref mo), (1, .ref h), (0, .ref ab)]) : W pg l ev room_1 s m #[Value.ref ab] below meth cd H locs cells slots Q (F0 m 668 ls []) := by
  obtain ⟨bf, ba, li, pa, va, na, ra, o, wa, sa, la, sp, wb, sb, lb, fa, ga, mr, ka, kw, n, b, rn, rw, ld, le, cn, pd, vl, kn, bc, ec, sz, sc, hv, w, st, ln, bc2, ec2, sz2, sc2, hv2, w2, st2, ln2, th, f, g, s0, rb, kd, wd, ov, hJ, hP, hD, hS⟩ := hSt
  obtain ⟨j1, j2, j3, j4, j5, j6, j7, j8, j9, j10⟩ := id hJ
  rcases fm_rngs (xs (i4 + 1)) (show cn < 2 ^ 31 by omega) with ⟨i, hi9, e⟩ | hno
  · obtain rfl : ld = 1 := j9 (by omega)
    obtain ⟨hF, hV, hs, rfl, rfl, rfl, rfl, rfl⟩ := j10 rfl
    exact lc_isKernY CX hc hi k801 hJ hP hD hS hl i e hi9
  · exact lc_isKernN CX hc hi k801 hJ hP hD hS hl _ rfl hno
theorem ld_item {pg : Program} {l : Launch} {ev : Env} {s : State} {m : MethodId} {below : List Frame} {meth : Method} {cd : Code} {ab L : Nat} {xs : Nat → Int32} {dC : Nat → ClassId} {dI : Nat → Nat → Nat} {cI cZ cB cL : ClassId} {Q : State → Prop} {cells slots i4 h mo ou : Nat} (CX : fm_CX pg l s m meth cd ab L xs dC dI cI cZ cB cL) (hc : cells + 1 ≤ 1055 ∧ slots + 6 ≤ 36376) (hi : i4 + 4 ≤ L) (k801 : fm_K8 pg l ev s m ab below meth cd dC dI cI cZ cB cL Q cells slots h mo ou i4) {H : Heap} {locs : List Loc} {ls : Array Slot} (hSt : fm_St dC dI cI cZ cB cL (fm_AA s) s.heap h mo ou H locs) (hl : lv_has ls 7 [(4, .int (nI (i4))), (3, .ref ou), (2, .ref mo), (1, .ref h), (0, .ref ab)]) : W pg l ev room_1 s m #[Value.ref ab] below meth cd H locs cells slots Q (F0 m 731 ls []) := by
  obtain ⟨bf, ba, li, pa, va, na, ra, o, wa, sa, la, sp, wb, sb, lb, fa, ga, mr, ka, kw, n, b, rn, rw, ld, le, cn, pd, vl, kn, bc, ec, sz, sc, hv, w, st, ln, bc2, ec2, sz2, sc2, hv2, w2, st2, ln2, th, f, g, s0, rb, kd, wd, ov, hJ, hP, hD, hS⟩ := hSt
  obtain ⟨j1, j2, j3, j4, j5, j6, j7, j8, j9, j10⟩ := id hJ
  rcases fm_rngs (xs (i4 + 1)) (show cn < 2 ^ 31 by omega) with ⟨i, hi9, e⟩ | hno
  · obtain rfl : ld = 1 := j9 (by omega)
    obtain ⟨hF, hV, hs, rfl, rfl, rfl, rfl, rfl⟩ := j10 rfl
    exact lc_itemY CX hc hi k801 hJ hP hD hS hl i e hi9
  · exact lc_itemN CX hc hi k801 hJ hP hD hS hl _ rfl hno
theorem ld_total {pg : Program} {l : Launch} {ev : Env} {s : State} {m : MethodId} {below : List Frame} {meth : Method} {cd : Code} {ab L : Nat} {xs : Nat → Int32} {dC : Nat → ClassId} {dI : Nat → Nat → Nat} {cI cZ cB cL : ClassId} {Q : State → Prop} {cells slots i4 h mo ou : Nat} (CX : fm_CX pg l s m meth cd ab L xs dC dI cI cZ cB cL) (hc : cells + 1 ≤ 1055 ∧ slots + 6 ≤ 36376) (hi : i4 + 4 ≤ L) (k801 : fm_K8 pg l ev s m ab below meth cd dC dI cI cZ cB cL Q cells slots h mo ou i4) {H : Heap} {locs : List Loc} {ls : Array Slot} (hSt : fm_St dC dI cI cZ cB cL (fm_AA s) s.heap h mo ou H locs) (hl : lv_has ls 7 [(4, .int (nI (i4))), (3, .ref ou), (2, .ref mo), (1, .ref h), (0, .ref ab)]) : W pg l ev room_1 s m #[Value.ref ab] below meth cd H locs cells slots Q (F0 m 787 ls []) := by
  obtain ⟨bf, ba, li, pa, va, na, ra, o, wa, sa, la, sp, wb, sb, lb, fa, ga, mr, ka, kw, n, b, rn, rw, ld, le, cn, pd, vl, kn, bc, ec, sz, sc, hv, w, st, ln, bc2, ec2, sz2, sc2, hv2, w2, st2, ln2, th, f, g, s0, rb, kd, wd, ov, hJ, hP, hD, hS⟩ := hSt
  obtain ⟨j1, j2, j3, j4, j5, j6, j7, j8, j9, j10⟩ := id hJ
  by_cases h0 : cn = 0
  · subst h0
    exact lc_total0 CX hc hi k801 hJ hP hD hS hl
  · obtain rfl : ld = 1 := j9 (by omega)
    obtain ⟨hF, hV, hs, rfl, rfl, rfl, rfl, rfl⟩ := j10 rfl
    exact lc_total1 CX hc hi k801 hJ hP hD hS hl
theorem fm_St_S {dC : Nat → ClassId} {dI : Nat → Nat → Nat} {cI cZ cB cL : ClassId} {A : Nat → Prop} {H0 : Heap} {h mo ou : Nat} {H : Heap} {locs : List Loc} (hSt : fm_St dC dI cI cZ cB cL A H0 h mo ou H locs) : va_S A H0 H locs := by
  obtain ⟨bf, ba, li, pa, va, na, ra, o, wa, sa, la, sp, wb, sb, lb, fa, ga, mr, ka, kw, n, b, rn, rw, ld, le, cn, pd, vl, kn, bc, ec, sz, sc, hv, w, st, ln, bc2, ec2, sz2, sc2, hv2, w2, st2, ln2, th, f, g, s0, rb, kd, wd, ov, hJ, hP, hD, hS⟩ := hSt
  exact hS
set_option maxHeartbeats 4000000 in
set_option maxRecDepth 100000 in
/-- the law's loop -/
theorem law_loop {pg : Program} {l : Launch} {ev : Env} {s : State} {m : MethodId} {below : List Frame} {meth : Method} {cd : Code} {ab L : Nat} {xs : Nat → Int32} {dC : Nat → ClassId} {dI : Nat → Nat → Nat} {cI cZ cB cL : ClassId} {h mo ou : Nat} (CX : fm_CX pg l s m meth cd ab L xs dC dI cI cZ cB cL) :
    ∀ (n i4 cells slots : Nat) (H : Heap) (locs : List Loc) (ls : Array Slot), L - i4 < n → i4 ≤ L → 4 * cells + (L - i4) ≤ 4220 → 4 * slots + 6 * (L - i4) ≤ 145504 → fm_St dC dI cI cZ cB cL (fm_AA s) s.heap h mo ou H locs → lv_has ls 7 [(4, .int (nI (i4))), (3, .ref ou), (2, .ref mo), (1, .ref h), (0, .ref ab)] → W pg l ev room_1 s m #[Value.ref ab] below meth cd H locs cells slots (lw_Z below #[Value.ref ab] s) (F0 m 23 ls []) := by
  intro n
  induction n with
  | zero => intro i4 cells slots H locs ls h; exact absurd h (Nat.not_lt_zero _)
  | succ n ih =>
    intro i4 cells slots H locs ls hn hi hc1 hc2 hSt hl
    obtain ⟨hl0, C0, hL8, hK, hTh, hNc⟩ := id CX
    obtain ⟨hx, hb, hr, hml, hown, hts, hX, hbl, hlocks, hgv⟩ := id C0
    have hbA : ¬ fm_AA s ab := Nat.not_le.mpr hbl
    have hS := fm_St_S hSt
    refine lv_iload hx hb d_LW_law_23 (lv_at hl 0 rfl) ?_
    refine lv_aload_n hx hb d_LW_law_25 rfl (lv_at hl 4 rfl) ?_
    refine va_slen hx hb hX hbl hbA hS d_LW_law_26 ?_
    refine lv_iconst (v := nI 4) hx hb d_LW_law_27 (by decide) ?_
    refine lv_isub hx hb d_LW_law_28 ?_
    refine lv_icmp_gt (tgt := 807) hx hb d_LW_law_29 (by decide) (fun c0 => ?_) (fun c0 => ?_)
    · refine lv_iconst (v := 1) hx hb d_LW_law_807 (by decide) ?_
      refine va_forget (fun q hq => hS.2.2 q hq) ?_
      refine W.widen (k := 1055) (n := 36376) (by omega) (by omega) ?_
      exact lw_ret hx hb hr hlocks d_LW_law_808
    · have hlt : i4 + 4 ≤ L := Nat.le_of_not_lt (fun z => c0 ((fm_sub4 hL8 (by omega)).mpr z))
      have hcc : cells + 1 ≤ 1055 ∧ slots + 6 ≤ 36376 := ⟨by omega, by omega⟩
      have k801 : fm_K8 pg l ev s m ab below meth cd dC dI cI cZ cB cL (lw_Z below #[Value.ref ab] s) cells slots h mo ou i4 := by
        intro H locs ls hSt hl
        refine lv_iinc (v := nI (i4 + 4)) (lv' := [(4, .int (nI (i4 + 4))), (3, .ref ou), (2, .ref mo), (1, .ref h), (0, .ref ab)]) hx hb d_LW_law_801 hl (k := 0) rfl (nI_add _ _) (by decide) rfl (fun ls hl => ?_)
        refine lv_goto (tgt := 23) hx hb d_LW_law_804 (by decide) ?_
        exact ih (i4 + 4) (cells + 1) (slots + 6) H locs ls (by omega) (by omega) (by omega) (by omega) hSt hl
      refine lv_aload_n hx hb d_LW_law_32 rfl (lv_at hl 4 rfl) ?_
      refine lv_iload hx hb d_LW_law_33 (lv_at hl 0 rfl) ?_
      refine va_sld hx hb hX hbl hbA hS (vp_in_nI (by omega) (by omega)) d_LW_law_35 ?_
      refine lv_bipush (v := nI 15) hx hb d_LW_law_36 (by decide) ?_
      refine lv_iand hx hb d_LW_law_38 ?_
      obtain ⟨k0, hk0, ek0⟩ := pk_andE (xs (nI i4).toNatClampNeg) (m := nI 15) 4 (by decide)
      refine fm_tw (z := nI k0) ek0 ?_
      rcases (show k0 = 0 ∨ k0 = 1 ∨ k0 = 2 ∨ k0 = 3 ∨ k0 = 4 ∨ k0 = 5 ∨ k0 = 6 ∨ k0 = 7 ∨ k0 = 8 ∨ k0 = 9 ∨ k0 = 10 ∨ k0 = 11 ∨ k0 = 12 ∨ k0 = 13 ∨ k0 = 14 ∨ k0 = 15 by omega) with rfl | rfl | rfl | rfl | rfl | rfl | rfl | rfl | rfl | rfl | rfl | rfl | rfl | rfl | rfl | rfl
      · refine lv_tableIn (off := 69) (tgt := 108) hx hb d_LW_law_39 (by decide) (by decide) (by decide) (by decide) ?_
        exact ld_feed CX hcc hlt k801 hSt hl
      · refine lv_tableIn (off := 138) (tgt := 177) hx hb d_LW_law_39 (by decide) (by decide) (by decide) (by decide) ?_
        exact ld_keep CX hcc hlt k801 hSt hl
      · refine lv_tableIn (off := 163) (tgt := 202) hx hb d_LW_law_39 (by decide) (by decide) (by decide) (by decide) ?_
        exact ld_load CX hcc hlt k801 hSt hl
      · refine lv_tableIn (off := 219) (tgt := 258) hx hb d_LW_law_39 (by decide) (by decide) (by decide) (by decide) ?_
        exact ld_about CX hcc hlt k801 hSt hl
      · refine lv_tableIn (off := 275) (tgt := 314) hx hb d_LW_law_39 (by decide) (by decide) (by decide) (by decide) ?_
        exact ld_has CX hcc hlt k801 hSt hl
      · refine lv_tableIn (off := 300) (tgt := 339) hx hb d_LW_law_39 (by decide) (by decide) (by decide) (by decide) ?_
        exact ld_of CX hcc hlt k801 hSt hl
      · refine lv_tableIn (off := 368) (tgt := 407) hx hb d_LW_law_39 (by decide) (by decide) (by decide) (by decide) ?_
        exact ld_part CX hcc hlt k801 hSt hl
      · refine lv_tableIn (off := 436) (tgt := 475) hx hb d_LW_law_39 (by decide) (by decide) (by decide) (by decide) ?_
        exact ld_parameter CX hcc hlt k801 hSt hl
      · refine lv_tableIn (off := 492) (tgt := 531) hx hb d_LW_law_39 (by decide) (by decide) (by decide) (by decide) ?_
        exact ld_ask CX hcc hlt k801 hSt hl
      · refine lv_tableIn (off := 560) (tgt := 599) hx hb d_LW_law_39 (by decide) (by decide) (by decide) (by decide) ?_
        exact ld_add CX hcc hlt k801 hSt hl
      · refine lv_tableIn (off := 585) (tgt := 624) hx hb d_LW_law_39 (by decide) (by decide) (by decide) (by decide) ?_
        exact ld_set CX hcc hlt k801 hSt hl
      · refine lv_tableIn (off := 629) (tgt := 668) hx hb d_LW_law_39 (by decide) (by decide) (by decide) (by decide) ?_
        exact ld_isKern CX hcc hlt k801 hSt hl
      · refine lv_tableIn (off := 692) (tgt := 731) hx hb d_LW_law_39 (by decide) (by decide) (by decide) (by decide) ?_
        exact ld_item CX hcc hlt k801 hSt hl
      · refine lv_tableIn (off := 748) (tgt := 787) hx hb d_LW_law_39 (by decide) (by decide) (by decide) (by decide) ?_
        exact ld_total CX hcc hlt k801 hSt hl
      · refine lv_tableOut (tgt := 801) hx hb d_LW_law_39 (by decide) (by decide) ?_
        refine W.widen (k := cells + 1) (n := slots + 6) (by omega) (by omega) ?_
        exact k801 _ _ _ hSt hl
      · refine lv_tableOut (tgt := 801) hx hb d_LW_law_39 (by decide) (by decide) ?_
        refine W.widen (k := cells + 1) (n := slots + 6) (by omega) (by omega) ?_
        exact k801 _ _ _ hSt hl
