/-! ROWS for long answers and for none, of methods that only look; THE MODEL, eighth part: the class's fonts -/
section FMR2
variable {p : Program} {l : Launch} {e : Env} {R : Room} {s : State} {m : MethodId} {args : Array Value} {below : List Frame} {meth : Method} {c : Code} {H : Heap} {locs : List Loc} {cells slots : Nat} {Q : State → Prop}
variable {D : va_G} {y : MethodName} {bytes cc : ByteArray} {maxL nL n index pc ci : Nat} {ret : Option FieldType} {rm : Room} {ws : va_W} {tys : List (ClassId × FieldType)} {cd : Cond} {own : String} {ls : Array Slot} {rest st0 : List Value}
theorem fm_clv {v : Int64} {b : Nat} {As : List Value} {fs : List Value} {T : u_T} {N : Nat} (S : CallFix p m c cc nL s args (cd :: fm_T) own) (hM : fm_ML l D y (.code y bytes maxL ret :: fm_T) rm (.ref b :: As) ws tys v) (hrc : rm.cells = 0) (hrs : rm.slots = 0)
    (ok : fm_Vok y bytes maxL ret n) (h1 : Cond.methodLink own index y ∈ fm_T) (hR : rm.frames + 1 ≤ R.frames ∧ 8 + (maxL + 11) + rm.locals ≤ R.locals) (hP : va_P D classes ws H) (hK : va_K D classes tys s) (q0 : Nat) (he : ws[q0]? = some (b, .inr (ci, fs))) (hc : classes[ci]? = some (y.cls, T, N))
    (hn : As.length = n) (hsize : ls.size = nL) (hst : st0 = As.reverse ++ .ref b :: rest) (hW : (rest.map fun v => v.category).sum ≤ 8) (hf : cells ≤ R.cells ∧ slots ≤ R.slots) (hdg : decode cc pc = .ok (.invokevirtual index, 3))
    (k : W p l e R s m args below meth c H locs cells slots Q (F0 m (pc + 3) ls (.long v :: rest))) : W p l e R s m args below meth c H locs cells slots Q (F0 m pc ls st0) :=
  vp_callSl (fm_runV (q0 := q0) S hM hrc hrs ok h1 hR hP hK q0 he hc hn hsize hst hW hf hdg) (fun r hr => by subst hr; exact k)
theorem fm_cnv {b : Nat} {As : List Value} {fs : List Value} {T : u_T} {N : Nat} (S : CallFix p m c cc nL s args (cd :: fm_T) own) (hM : fm_MV l D y (.code y bytes maxL ret :: fm_T) rm (.ref b :: As) ws tys) (hrc : rm.cells = 0) (hrs : rm.slots = 0)
    (ok : fm_Vok y bytes maxL ret n) (h1 : Cond.methodLink own index y ∈ fm_T) (hR : rm.frames + 1 ≤ R.frames ∧ 8 + (maxL + 11) + rm.locals ≤ R.locals) (hP : va_P D classes ws H) (hK : va_K D classes tys s) (q0 : Nat) (he : ws[q0]? = some (b, .inr (ci, fs))) (hc : classes[ci]? = some (y.cls, T, N))
    (hn : As.length = n) (hsize : ls.size = nL) (hst : st0 = As.reverse ++ .ref b :: rest) (hW : (rest.map fun v => v.category).sum ≤ 8) (hf : cells ≤ R.cells ∧ slots ≤ R.slots) (hdg : decode cc pc = .ok (.invokevirtual index, 3))
    (k : W p l e R s m args below meth c H locs cells slots Q (F0 m (pc + 3) ls rest)) : W p l e R s m args below meth c H locs cells slots Q (F0 m pc ls st0) :=
  va_csv (fm_runV (q0 := q0) S hM hrc hrs ok h1 hR hP hK q0 he hc hn hsize hst hW hf hdg) (fun _ => k)
end FMR2
def fm_tk (b w : Nat → Int32) : Nat → Int32 := va_cpy b w 0 0 2048
theorem fm_tk_in (b w : Nat → Int32) {i : Nat} (h : i < 2048) : fm_tk b w i = b i := by
  unfold fm_tk va_cpy
  rw [if_pos (by omega), Nat.zero_add, Nat.sub_zero]
/-- the lengths and starts of the parts, by the numbers -/
def fm_ln (w : Nat → Int32) (p : Nat) : Int32 := if p = 0 then nI (fm_nb w 1) else if p = 1 then nI (fm_nb w 3) - nI (fm_nb w 2) + nI 1 else nI (fm_nb w (p + 2))
def fm_sI (w : Nat → Int32) : Nat → Int32
  | 0 => nI 6
  | p + 1 => fm_sI w p + fm_ln w p
theorem fm_ln_WD {w : Nat → Int32} {B : Nat → Nat} (h : ∀ i, i < 12 → fm_nb w i = fm_HF B i) {p : Nat} (hp : p < 10) (h1 : p = 1 → fm_HF B 2 ≤ fm_HF B 3 + 1) : fm_ln w p = nI (fm_WD B p) := by
  unfold fm_ln fm_WD
  by_cases e0 : p = 0
  · rw [if_pos e0, if_pos e0, h 1 (by decide)]
  · rw [if_neg e0, if_neg e0]
    by_cases e1 : p = 1
    · rw [if_pos e1, if_pos e1, h 3 (by decide), h 2 (by decide), fm_sub1 (h1 e1)]
    · rw [if_neg e1, if_neg e1, h (p + 2) (by omega)]
theorem fm_sI_ST {w : Nat → Int32} {B : Nat → Nat} (h : ∀ i, i < 12 → fm_nb w i = fm_HF B i) (h1 : fm_HF B 2 ≤ fm_HF B 3 + 1) : ∀ p, p ≤ 10 → fm_sI w p = nI (fm_ST B p) := by
  intro p
  induction p with
  | zero => intro _; rfl
  | succ p ih =>
    intro hp
    show fm_sI w p + fm_ln w p = nI (fm_ST B p + fm_WD B p)
    rw [ih (by omega), fm_ln_WD h (by omega) (fun _ => h1), nI_add]
theorem fm_nb_HF {w : Nat → Int32} {B : Nat → Nat} (hB : ∀ i, B i < 256) (h : ∀ i, i < 6 → w i = nI (fm_WO B i)) : ∀ i, i < 12 → fm_nb w i = fm_HF B i := by
  intro i hi
  unfold fm_nb
  rw [h (i / 2) (by omega), fm_tn_nI (fm_WO_lt hB _)]
  unfold fm_WO fm_HF
  have h0 := hB (4 * (i / 2))
  have h1 := hB (4 * (i / 2) + 1)
  have h2 := hB (4 * (i / 2) + 2)
  have h3 := hB (4 * (i / 2) + 3)
  by_cases e : i % 2 = 0
  · rw [if_pos e, show 2 * i = 4 * (i / 2) by omega]
    omega
  · rw [if_neg e, show 2 * i = 4 * (i / 2) + 2 by omega, show 4 * (i / 2) + 2 + 1 = 4 * (i / 2) + 3 from rfl]
    omega
def fm_totC (B : Nat → Nat) (s : Nat) (vl kn : Nat → Int32) : Nat → Int64
  | 0 => 0
  | k + 1 => fm_totC B s vl kn k + (if kn k ≠ 0 then (vl k).toInt64 else (fm_sc B s 2 (fm_pl B (vl k).toNatClampNeg 0)).toInt64)
